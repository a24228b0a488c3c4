/** Boundaries of promise 4: what a TEXT may have, each least and most of its TOKENS and LINES. */
public final class TextBoundsTest {
    private static final int NONE = PriceDesk.NONE;
    private static final String RULE = " all 0 share 0;";
    private static final String CONTRACT = "contract 5 = 1000 base 0 all 0 share 0;";

    public static void main(String[] args) {
        lettersOfAWord();
        digitsOfANumber();
        signs();
        blanks();
        blanksOrNot();
        goesOn();
        bytesOfAText();
        linesOfAText();
        theFirstLine();
        nowToldOrNot();
        valuesOfAnIndex();
        noMoreValuesThanMonths();
        sixIndexes();
        pricesTold();
        baseMonths();
        thousandths();
        unlikeIndexesToldAhead();
        aValueOfTheMonth();
        togetherAThousand();
        limits();
        parts();
        sixContracts();
        termsOfAContract();
        names();
        nameToldOnce();
        Checks.finish("TextBoundsTest");
    }

    private static void dueFault(String ahead, String from, int kind) {
        Checks.dueFault(ahead + from, ahead.length(), kind);
    }

    private static boolean isLetter(int sign) {
        return sign >= 97 && sign <= 122;
    }

    private static boolean isDigit(int sign) {
        return sign >= 48 && sign <= 57;
    }

    private static boolean isBlank(int sign) {
        return sign == 32 || sign == 10;
    }

    private static void lettersOfAWord() {
        Checks.says("WORDS: small letters, 1 to 8");
        String word = "";
        for (int letters = 1; letters <= 20; letters++) {
            word += (char) ('a' + letters);
            if (letters <= 8) {
                Checks.dueLines("month 0;index " + word + " 1;", 2);
            } else {
                dueFault("month 0;index ", word + " 1;", 1);
            }
        }
        for (int sign = 0; sign < 256; sign++) {
            String text = "month 0;index " + (char) sign + " 1;";
            if (isLetter(sign)) {
                Checks.dueLines(text, 2);
            } else if (isBlank(sign)) {
                dueFault("month 0;index " + (char) sign + " ", "1;", 1);
            } else {
                dueFault("month 0;index ", text.substring(14), 1);
            }
        }
    }

    private static void digitsOfANumber() {
        Checks.says("NUMBERS: 1 to 4 digits");
        for (String number : new String[] {"7", "07", "007", "0007"}) {
            PriceDesk desk = Checks.desk("month " + number + ";");
            Checks.due("NOW by " + number, desk.now(0), 7);
        }
        dueFault("month ", ";", 1);
        dueFault("month ", "00007;", 1);
        dueFault("month ", "000007;", 1);
        dueFault("month ", "4294967303;", 1);
        dueFault("month ", "18446744073709551623;", 1);
        for (int sign = 0; sign < 256; sign++) {
            String text = "month " + (char) sign + ";";
            if (isDigit(sign)) {
                Checks.due("NOW by " + sign, Checks.desk(text).now(0), sign - 48);
            } else if (isBlank(sign)) {
                dueFault("month " + (char) sign, ";", 1);
            } else {
                dueFault("month ", text.substring(6), 1);
            }
        }
    }

    private static void signs() {
        Checks.says("the signs ; = + . (A WORD");
        for (int sign = 0; sign < 256; sign++) {
            char c = (char) sign;
            dueSign("month 0", c, "", ';', 1);
            dueSign("month 0;contract 5 ", c, " 1000 base 0 all 0 share 0;", '=', 2);
            dueSign("month 0;index a 1;contract 5=0 ", c, " 1000 a base 0 all 0 share 0;", '+', 3);
        }
    }

    /** Of all signs one alone does; a letter or a digit is tried elsewhere. */
    private static void dueSign(String ahead, char sign, String behind, char due, int lines) {
        if (sign == due) {
            Checks.dueLines(ahead + sign + behind, lines);
        } else if (isBlank(sign)) {
            String blanks = ahead + sign + " ".repeat(behind.isEmpty() ? 0 : 1);
            dueFault(blanks, behind.isEmpty() ? "" : behind.substring(1), 1);
        } else if (!isLetter(sign) && !isDigit(sign)) {
            dueFault(ahead, sign + behind, 1);
        }
    }

    private static void blanks() {
        Checks.says("TOKENS of a text, with blanks (32, 10) between them or not");
        for (int sign = 0; sign < 256; sign++) {
            char c = (char) sign;
            if (isBlank(sign)) {
                Checks.dueLines(c + "month 0;", 1);
                Checks.dueLines("month" + c + "0;", 1);
                Checks.dueLines("month 0" + c + ";", 1);
                Checks.dueLines("month 0;" + c, 1);
                continue;
            }
            dueFault("", c + "month 0;", 1);
            boolean goesOn = isLetter(sign) || isDigit(sign);
            dueFault(goesOn ? "" : "month", (goesOn ? "month" : "") + c + "0;", 1);
            dueFault("month 0;", c + "", 1);
        }
    }

    private static void blanksOrNot() {
        String[] tokens = {"month", "0", ";", "index", "a", "1", ";", "contract", "5", "=", "0", "+", "1000", "a",
            "base", "0", "all", "0", "share", "0", ";"};
        StringBuilder tight = new StringBuilder();
        StringBuilder wide = new StringBuilder();
        boolean isSignAhead = true;
        for (String token : tokens) {
            boolean isSign = token.matches("[;=+]");
            tight.append(isSign || isSignAhead ? "" : " ").append(token);
            wide.append(" \n\n ").append(token);
            isSignAhead = isSign;
        }
        Checks.dueLines(tight.toString(), 3);
        Checks.dueLines(wide + "\n", 3);
        // what stands ahead of a NAME is none of it
        Checks.dueLines("month 0;index\na 1;contract 5=0+1000 a base 0" + RULE, 3);
        Checks.dueLines("month 0;index a 1;contract 5=0+1000\na base 0" + RULE, 3);
        dueFault("month 0;index a 1;index\n", "a 1;", 3);
    }

    private static void goesOn() {
        Checks.says("(A WORD, NUMBER goes on as long as small letters and digits do; what is not as told is no TOKEN.)");
        dueFault("", "month0;", 1);
        dueFault("", "monthindex 0;", 1);
        dueFault("month ", "0a;", 1);
        dueFault("month ", "a0;", 1);
        dueFault("month 0;", "index0 a 1;", 1);
        dueFault("month 0;index ", "a1 1;", 1);
        dueFault("month 0;index ", "1a 1;", 1);
        dueFault("month 0;index ", "abcdefg1 1;", 1);
        dueFault("month 0;index a ", "1b;", 1);
        dueFault("month 0;index a ", "123b;", 1);
        dueFault("month 0;index a 1;contract 5=0+", "1000a base 0" + RULE, 1);
        dueFault("month 0;index a 1;contract 5=0+1000 a base ", "0all 0 share 0;", 1);
        dueFault("month 0;index a 1;contract 5=0+1000 ", "abase 0" + RULE, 3);
        dueFault("month 0;index a", "B 1;", 1);
        dueFault("month 0;index a", "\u00e9 1;", 1);
    }

    private static void bytesOfAText() {
        Checks.says("A TEXT has at most 700 bytes");
        for (int bytes : new int[] {8, 698, 699, 700, 701, 702, 739, 740}) {
            String blanks = " ".repeat(bytes - 8);
            for (String text : new String[] {"month 0;" + blanks, blanks + "month 0;", "month " + blanks + "0;",
                "month 0" + blanks + ";"}) {
                if (bytes <= 700) {
                    Checks.dueLines(text, 1);
                } else {
                    Checks.dueFault(text, 700, 1);
                }
            }
        }
    }

    private static void linesOfAText() {
        Checks.says("{ LINE ; }");
        StringBuilder text = new StringBuilder();
        Checks.dueLines(text.toString(), 0);
        dueFault("", ";", 1);
        text.append("month 0;");
        Checks.dueLines(text.toString(), 1);
        for (int line = 2; line <= 13; line++) {
            String told = line <= 7 ? "index " + (char) ('a' + line) + " 1" : CONTRACT.substring(0, CONTRACT.length() - 1);
            dueFault(text + told, "", 1);
            dueFault(text + told, "=", 1);
            text.append(told).append(';');
            Checks.dueLines(text.toString(), line);
            dueFault(text.toString(), ";", 1);
        }
    }

    private static void theFirstLine() {
        Checks.says("The first LINE: 'month' NOW (0 to 35).");
        for (int now = 0; now <= 35; now++) {
            Checks.due("NOW", Checks.desk("month " + now + ";").now(0), now);
        }
        for (String now : new String[] {"36", "37", "100", "0036", "9999"}) {
            dueFault("month ", now + ";", 2);
        }
        dueFault("month ", "-1;", 1);
    }

    private static void nowToldOrNot() {
        dueFault("", "index a 1;", 1);
        dueFault("", CONTRACT, 1);
        dueFault("", "months 0;", 1);
        dueFault("", "mont 0;", 1);
        dueFault("", "nonth 0;", 1);
        dueFault("", "monti 0;", 1);
        dueFault("", "0;", 1);
        dueFault("month 0;", "month 0;", 1);
        dueFault("month 0;index a 1;", "month 0;", 1);
        dueFault("month 0;" + CONTRACT, "month 0;", 1);
    }

    private static void valuesOfAnIndex() {
        Checks.says("'index' NAME VALUE { VALUE } (VALUES 1 to 999");
        for (String ahead : new String[] {"month 2;index a ", "month 2;index a 7 ", "month 2;index a 7 7 "}) {
            int month = (ahead.length() - 16) / 2;
            for (int value : new int[] {1, 2, 998, 999}) {
                Checks.due("a VALUE told", Checks.desk(ahead + value + ";").value(0, month, 0), value);
            }
            dueFault(ahead, "0;", 2);
            dueFault(ahead, "0000;", 2);
            dueFault(ahead, "1000;", 2);
            dueFault(ahead, "9999;", 2);
            dueFault(ahead, "10000;", 1);
        }
        dueFault("month 2;index a", ";", 1);
    }

    private static void noMoreValuesThanMonths() {
        Checks.says("final ones of MONTHS 0, 1, .., no more than NOW and 1");
        for (int now : new int[] {0, 1, 2, 34, 35}) {
            StringBuilder text = new StringBuilder("month " + now + ";index a");
            for (int month = 0; month <= now; month++) {
                text.append(' ').append(100 + month);
                PriceDesk desk = Checks.desk(text + ";");
                Checks.due("value", desk.value(0, month, 0), 100 + month);
                Checks.due("final", desk.value(0, month, 1), 2);
                Checks.due("none behind", desk.value(0, month + 1, 1), month == 35 ? NONE : 0);
            }
            dueFault(text + " ", "1;", 2);
            dueFault(text + " ", "0;", 2);
            dueFault(text + " ", "1000;", 2);
            dueFault(text + " ", "1 1;", 2);
        }
    }

    private static String indexes(int count) {
        StringBuilder text = new StringBuilder("month 0;");
        for (int index = 0; index < count; index++) {
            text.append("index ").append((char) ('a' + index)).append(' ').append(10 + index).append(';');
        }
        return text.toString();
    }

    private static void sixIndexes() {
        Checks.says("6 at most, numbered from 0) | 'contract'");
        for (int count = 0; count <= 6; count++) {
            PriceDesk desk = Checks.desk(indexes(count));
            Checks.due("indexes", desk.now(1), count);
            Checks.due("index -1", desk.value(-1, 0, 0), NONE);
            for (int index = 0; index < count; index++) {
                Checks.due("index " + index, desk.value(index, 0, 0), 10 + index);
            }
            Checks.due("index " + count, desk.value(count, 0, 0), NONE);
        }
        dueFault(indexes(6), "index g 1;", 4);
        dueFault(indexes(6) + CONTRACT, "index g 1;", 4);
    }

    private static void pricesTold() {
        Checks.says("PRICE 1 to 9999");
        for (int price : new int[] {1, 2, 999, 1000, 9998, 9999}) {
            PriceDesk desk = Checks.desk("month 0;contract " + price + " = 1000 base 0" + RULE);
            Checks.due("PRICE", desk.contract(0, 0), price);
        }
        dueFault("month 0;contract ", "0 = 1000 base 0" + RULE, 2);
        dueFault("month 0;contract ", "0000 = 1000 base 0" + RULE, 2);
        dueFault("month 0;contract ", "10000 = 1000 base 0" + RULE, 1);
    }

    private static void baseMonths() {
        Checks.says("MONTH 0 to NOW");
        for (int now : new int[] {0, 1, 34, 35}) {
            String ahead = "month " + now + ";contract 5 = 1000 base ";
            for (int base = 0; base <= now; base++) {
                Checks.due("base", Checks.desk(ahead + base + RULE).contract(0, 2), base);
            }
            dueFault(ahead, now + 1 + RULE, 2);
            dueFault(ahead, now + 2 + RULE, 2);
            dueFault(ahead, "9999" + RULE, 2);
        }
    }

    private static void thousandths() {
        Checks.says("FIXED, WEIGHT 0 to 1000, in thousandths");
        String ahead = "month 0;index a 1;contract 5 = ";
        for (int fixed : new int[] {0, 1, 500, 999, 1000}) {
            PriceDesk desk = Checks.desk(ahead + fixed + " + " + (1000 - fixed) + " a base 0" + RULE);
            Checks.due("FIXED", desk.contract(0, 1), fixed);
            Checks.due("WEIGHT", desk.contract(0, 7), 1000 - fixed);
        }
        dueFault(ahead, "1001 base 0" + RULE, 2);
        dueFault(ahead, "9999 base 0" + RULE, 2);
        dueFault(ahead + "0 + ", "1001 a base 0" + RULE, 2);
        dueFault(ahead + "0 + ", "9999 a base 0" + RULE, 2);
    }

    private static void unlikeIndexesToldAhead() {
        Checks.says("NAMES of unlike indexes told ahead");
        String two = "month 0;index a 1;index b 1;";
        Checks.dueLines(two + "contract 5 = 0 + 500 a + 500 b base 0" + RULE, 4);
        Checks.dueLines(two + "contract 5 = 0 + 500 b + 500 a base 0" + RULE, 4);
        dueFault(two + "contract 5 = 0 + 500 a + 500 ", "a base 0" + RULE, 3);
        dueFault(two + "contract 5 = 0 + 0 a + 500 b + 500 ", "a base 0" + RULE, 3);
        dueFault(two + "contract 5 = 0 + 500 a + 500 ", "c base 0" + RULE, 3);
        // told behind it is not told ahead; another contract may have the same
        dueFault("month 0;contract 5 = 0 + 1000 ", "a base 0" + RULE + "index a 1;", 3);
        Checks.dueLines(two + "contract 5 = 0 + 1000 a base 0" + RULE + "contract 6 = 0 + 1000 a base 0" + RULE, 5);
        Checks.dueLines("month 0;index a 1;contract 5 = 0 + 1000 a base 0" + RULE
            + "index b 1;contract 5 = 0 + 1000 b base 0" + RULE, 5);
    }

    private static void aValueOfTheMonth() {
        Checks.says("all of which have a VALUE of MONTH");
        String ahead = "month 3;index a 1 1 1;index b 1 1;contract 5 = ";
        for (int weight : new int[] {0, 1, 1000}) {
            String formula = 1000 - weight + " + " + weight;
            Checks.dueLines(ahead + formula + " b base 1" + RULE, 4);
            dueFault(ahead + formula + " b base ", "2" + RULE, 5);
            dueFault(ahead + formula + " b base ", "3" + RULE, 5);
            Checks.dueLines(ahead + formula + " a base 2" + RULE, 4);
            dueFault(ahead + formula + " a base ", "3" + RULE, 5);
        }
        Checks.dueLines(ahead + "0 + 500 a + 500 b base 1" + RULE, 4);
        dueFault(ahead + "0 + 500 a + 500 b base ", "2" + RULE, 5);
        dueFault(ahead + "0 + 500 b + 500 a base ", "2" + RULE, 5);
        // an index that is no term needs none
        Checks.dueLines(ahead + "1000 base 3" + RULE, 4);
    }

    private static void togetherAThousand() {
        Checks.says("FIXED and WEIGHTS together 1000;");
        String ahead = "month 0;index a 1;index b 1;contract 5 = ";
        dueFault(ahead + "999 ", "base 0" + RULE, 5);
        Checks.dueLines(ahead + "1000 base 0" + RULE, 4);
        dueFault(ahead + "0 ", "base 0" + RULE, 5);
        dueFault(ahead + "0 + 999 a ", "base 0" + RULE, 5);
        Checks.dueLines(ahead + "0 + 1000 a base 0" + RULE, 4);
        dueFault(ahead + "1 + 1000 a ", "base 0" + RULE, 5);
        dueFault(ahead + "1000 + 1 a ", "base 0" + RULE, 5);
        dueFault(ahead + "333 + 333 a + 333 b ", "base 0" + RULE, 5);
        Checks.dueLines(ahead + "333 + 333 a + 334 b base 0" + RULE, 4);
        dueFault(ahead + "334 + 333 a + 334 b ", "base 0" + RULE, 5);
        dueFault(ahead + "1000 + 1000 a + 1000 b ", "base 0" + RULE, 5);
        Checks.dueLines(ahead + "1000 + 0 a + 0 b base 0" + RULE, 4);
    }

    private static void limits() {
        Checks.says("LIMIT 0 to 999, in thousandths");
        for (String rule : new String[] {"all ", "beyond "}) {
            String ahead = "month 0;contract 5 = 1000 base 0 " + rule;
            for (int limit : new int[] {0, 1, 998, 999}) {
                PriceDesk desk = Checks.desk(ahead + limit + " share 7;");
                Checks.due("LIMIT", desk.contract(0, 3), limit);
                Checks.due("rule", desk.contract(0, 5), rule.equals("beyond ") ? 1 : 0);
            }
            dueFault(ahead, "1000 share 7;", 2);
            dueFault(ahead, "9999 share 7;", 2);
            dueFault(ahead, "00000 share 7;", 1);
        }
    }

    private static void parts() {
        Checks.says("PART 0 to 100, in hundredths");
        String ahead = "month 0;contract 5 = 1000 base 0 all 0 share ";
        for (int part : new int[] {0, 1, 99, 100}) {
            Checks.due("PART", Checks.desk(ahead + part + ";").contract(0, 4), part);
        }
        dueFault(ahead, "101;", 2);
        dueFault(ahead, "102;", 2);
        dueFault(ahead, "9999;", 2);
    }

    private static void sixContracts() {
        Checks.says("6 at most, numbered from 0). NAME");
        StringBuilder text = new StringBuilder("month 0;");
        for (int count = 0; count <= 6; count++) {
            PriceDesk desk = Checks.desk(text.toString());
            Checks.due("contracts", desk.now(2), count);
            Checks.due("contract -1", desk.contract(-1, 0), NONE);
            for (int contract = 0; contract < count; contract++) {
                Checks.due("contract " + contract, desk.contract(contract, 0), 10 + contract);
            }
            Checks.due("contract " + count, desk.contract(count, 0), NONE);
            if (count < 6) {
                text.append("contract ").append(10 + count).append(" = 1000 base 0").append(RULE);
            }
        }
        dueFault(text.toString(), CONTRACT, 4);
        dueFault(text + "index a 1;", CONTRACT, 4);
    }

    private static void termsOfAContract() {
        Checks.says("'contract' PRICE = FIXED { + WEIGHT NAME } 'base' MONTH ( 'all' | 'beyond' ) LIMIT 'share' PART");
        StringBuilder formula = new StringBuilder(indexes(6) + "contract 5 = 1000");
        for (int terms = 0; terms <= 6; terms++) {
            PriceDesk desk = Checks.desk(formula + " base 0" + RULE);
            Checks.due("terms", desk.contract(0, 6), terms);
            for (int k = 0; k < terms; k++) {
                Checks.due("WEIGHT of " + k, desk.contract(0, 7 + 2 * k), 0);
                Checks.due("index of " + k, desk.contract(0, 8 + 2 * k), 5 - k);
            }
            Checks.due("no more", desk.contract(0, 7 + 2 * terms), NONE);
            if (terms < 6) {
                formula.append(" + 0 ").append((char) ('f' - terms));
            }
        }
        dueFault(formula + " + 0 ", "a base 0" + RULE, 3);
        dueFault(formula + " + 0 ", "g base 0" + RULE, 3);
    }

    private static void names() {
        Checks.says("NAME: a WORD, none of those told here;");
        for (String word : new String[] {"month", "index", "contract", "base", "all", "beyond", "share"}) {
            dueFault("month 0;index ", word + " 1;", 1);
            dueFault("month 0;index a 1;contract 5 = 0 + 1000 ", word + " base 0" + RULE, 1);
            // one letter less or more is another word
            String less = word.substring(1);
            String other = word.substring(0, word.length() - 1) + "q";
            String first = "q" + less;
            for (String near : new String[] {less, first, other, word.length() < 8 ? word + "s" : "contrac"}) {
                Checks.dueLines("month 0;index " + near + " 1;contract 5 = 0 + 1000 " + near + " base 0" + RULE, 3);
            }
        }
        // words that the document has elsewhere
        for (String word : new String[] {"now", "name", "value", "price", "fixed", "weight", "limit", "part"}) {
            Checks.dueLines("month 0;index " + word + " 1;contract 5 = 0 + 1000 " + word + " base 0" + RULE, 3);
        }
    }

    private static void nameToldOnce() {
        Checks.says("NAME: a WORD, none of those told here; told once.");
        String one = "month 0;index steel 1;";
        dueFault(one + "index ", "steel 2;", 3);
        for (String near : new String[] {"stee", "teel", "steels", "steem", "ateel", "steal", "s"}) {
            Checks.dueLines(one + "index " + near + " 2;", 3);
            dueFault(one + "contract 5 = 0 + 1000 ", near + " base 0" + RULE, 3);
        }
        for (int first = 0; first < 5; first++) {
            dueFault(indexes(5) + "index ", (char) ('a' + first) + " 1;", 3);
        }
        dueFault("month 0;index abcdefgh 1;index ", "abcdefgh 1;", 3);
        Checks.dueLines("month 0;index abcdefgh 1;index abcdefgi 1;", 3);
        // names of a text ahead are not told in this one
        PriceDesk desk = Checks.desk(one);
        Checks.due("the name again in a new text", Checks.tell(desk, one), 2);
        Checks.due("a name of the text ahead", Checks.tell(desk, "month 0;contract 5 = 0 + 1000 steel base 0" + RULE), -31);
        Checks.due("its kind", desk.fault(), 3);
    }
}
