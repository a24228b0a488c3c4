/** Boundaries of promises 4 and 5: the kinds of FAULTS, their places, which is the first and which the least. */
public final class FaultBoundsTest {
    private static final String RULE = " all 0 share 0;";
    private static final String SIX = "month 0;index a 1;index b 1;index c 1;index d 1;index e 1;index f 1;";

    private static final Scene BUSY = new Scene("month 3;index a 100 110 121;index b 50;"
        + "contract 1000 = 200 + 500 a + 300 b base 0 all 5 share 90;contract 7 = 1000 base 2 beyond 0 share 0;")
        .then(desk -> {
            desk.publish(0, 3, 130, true);
            desk.rebase(0, 3, 65);
            desk.deliver(0, 2, 10);
            desk.deliver(1, 3, 10);
            desk.close();
            desk.publish(1, 4, 51, false);
            desk.deliver(0, 4, 5);
        });

    public static void main(String[] args) {
        theFirst();
        theLeast();
        whatCantCome();
        theEnd();
        beyond700();
        readWhole();
        faultsAheadOf700();
        wrongNumbers();
        aValueTooMany();
        wrongNames();
        oneMoreOfASort();
        notAThousand();
        noValueOfTheMonth();
        Checks.finish("FaultBoundsTest");
    }

    private static void due(String ahead, String from, int kind) {
        BUSY.refusesText(ahead, from, kind);
    }

    private static void theFirst() {
        Checks.says("FAULTS, the first along the text");
        due("month ", "36;?", 2);
        due("month 0;index a ", "0 0;", 2);
        due("month 0;index a 1;index ", "a 0;", 3);
        due("month 0;index a 1;index ", "a;", 3);
        due(SIX, "index a 0;", 4);
        due(SIX, "index ?", 4);
        due("month 0;index a 1;contract 5 = 1000 + 1 ", "z base 0" + RULE, 3);
        due("month 0;index a 1;contract 5 = 1000 + ", "1001 z base 0" + RULE, 2);
        due("month 0;index a 1;contract 5 = 999 ", "base 1" + RULE, 5);
        due("month 0;index a 1;contract 5 = 999 ", "base ?", 5);
        due("month 1;index a 1;contract 5 = 1000 + 0 a base ", "1 all 1000 share 101;", 5);
        due("month 0;contract 5 = 1000 base 0 all ", "1000 share 101;", 2);
        due("month 0;contract ", "0 = 1001 base 0" + RULE, 2);
        due("", "index a 0;month 36;", 1);
    }

    private static void theLeast() {
        Checks.says("of one TOKEN the least");
        // no TOKEN and a VALUE too many
        due("month 0;index a 1 ", "10000;", 1);
        due("month 0;index a 1 ", "1a;", 1);
        // a MONTH later than NOW and without a VALUE
        due("month 1;index a 1;contract 5 = 0 + 1000 a base ", "2" + RULE, 2);
        due("month 1;index a 1;contract 5 = 0 + 1000 a base ", "1" + RULE, 5);
        // a WORD that can't come and would be one more of its sort
        due(SIX, "index index g 1;", 4);
        due(SIX + "contract 5 ", "index g 1;", 1);
        due(SIX + "contract 5 = 1000 ", "index g 1;", 1);
        // not 1000 together, and not 'base' either
        due("month 0;index a 1;contract 5 = 999 ", "bases 0" + RULE, 1);
        due("month 0;index a 1;contract 5 = 999 ", "; base 0" + RULE, 1);
        due("month 0;index a 1;contract 5 = 999 + 2 a ", "a base 0" + RULE, 1);
        // a NAME that is none and was not told
        due("month 0;index a 1;contract 5 = 0 + 1000 ", "share base 0" + RULE, 1);
        due("month 0;index a 1;contract 5 = 0 + 1000 ", "abcdefghi base 0" + RULE, 1);
        due("month 0;index a 1;contract 5 = 0 + 500 a + 500 ", "a1 base 0" + RULE, 1);
        // 'month' told twice is a WORD that can't come
        due("month 0;", "month 36;", 1);
    }

    private static final String[] TOKENS = {"month", "1", ";", "index", "a", "1", "2", ";", "contract", "5", "=", "0",
        "+", "1000", "a", "base", "0", "beyond", "0", "share", "0", ";"};

    private static String ahead(int count) {
        StringBuilder text = new StringBuilder();
        for (int k = 0; k < count; k++) {
            text.append(TOKENS[k]).append(' ');
        }
        return text.toString();
    }

    /** Which of these may come at each place of TOKENS: a word for each, '#' a number, '@' a name. */
    private static final String[] MAY_COME = {"month", "#", ";", "index contract", "@", "#", "# ;", "# ;", "index contract",
        "#", "=", "#", "+ base", "#", "@", "+ base", "#", "all beyond", "#", "share", "#", ";"};

    private static void whatCantCome() {
        Checks.says("1 no TOKEN, or one that can't come (at it;");
        String[] tried = {"month", "index", "contract", "base", "all", "beyond", "share", "a", "1", ";", "=", "+",
            ".", "?", "-", "a1", "1a", "00001", "abcdefghi", "A", "\t", "\0", "\u00ff"};
        for (int place = 0; place < TOKENS.length; place++) {
            for (String token : tried) {
                String kind = token.equals("a") ? "@" : token.equals("1") ? "#" : token;
                boolean may = (" " + MAY_COME[place] + " ").contains(" " + kind + " ");
                if (!may) {
                    Checks.dueFault(ahead(place) + token + " ", ahead(place).length(), 1);
                }
            }
        }
        // one of each with all that stays
        due(ahead(0), "base", 1);
        due(ahead(5), ";", 1);
        due(ahead(21), "1", 1);
    }

    private static void theEnd() {
        Checks.says("the end: how many bytes there are");
        for (int count = 1; count < TOKENS.length; count++) {
            String text = ahead(count);
            String last = TOKENS[count - 1];
            String tight = text.substring(0, text.length() - 1);
            if (last.equals(";")) {
                Checks.dueLines(tight, count == 3 ? 1 : 2);
                Checks.dueLines(text + "\n", count == 3 ? 1 : 2);
                continue;
            }
            Checks.dueFault(tight, tight.length(), 1);
            Checks.dueFault(text, text.length(), 1);
            Checks.dueFault(text + "\n ", text.length() + 2, 1);
        }
        Checks.dueLines(ahead(TOKENS.length), 3);
        due("month", "", 1);
        due("month  ", "", 1);
    }

    private static void beyond700() {
        Checks.says("700, if there are more and no FAULT is ahead");
        // the end of 699 and of 700 bytes is where the bytes are all
        due("month 1" + " ".repeat(692), "", 1);
        due("month 1" + " ".repeat(693), "", 1);
        due("month 1" + " ".repeat(693), " ", 1);
        due("month 1" + " ".repeat(693), ";", 1);
        due("month 1" + " ".repeat(693), " ;", 1);
        due("month 1;" + " ".repeat(692), " ", 1);
        due("month 1;" + " ".repeat(692), "index a 1;", 1);
        due("month 1;" + " ".repeat(692), "?", 1);
        due(" ".repeat(700), " ", 1);
        due(" ".repeat(700), " ".repeat(40), 1);
        Checks.dueLines(" ".repeat(700), 0);
        // a fault of another kind from 700 on is not seen
        due("month " + " ".repeat(694), "36;", 1);
        due(SIX + " ".repeat(700 - SIX.length()), "index g 1;", 1);
        due("month 0;contract 5 = 999 " + " ".repeat(675), "base 0" + RULE, 1);
    }

    private static void readWhole() {
        Checks.says("TOKENS that begin ahead of it are read whole");
        String month = "month 0;";
        // 'index' from 695 to 699, from 696 to 700, from 699 on
        for (int from : new int[] {694, 695, 696, 697, 698, 699}) {
            String ahead = month + " ".repeat(from - 8);
            due(ahead + "index a 1;".substring(0, 700 - from), "index a 1;".substring(700 - from) + "  ", 1);
            // whole, it is no keyword
            due(ahead, "indexes a 1;", 1);
            due(ahead, "index2 a 1;", 1);
        }
        due(month + " ".repeat(692), "indexes", 1);
        // a NUMBER is read whole: 36 and not 3, 00350 and not 0035
        due("month " + " ".repeat(693), "36;", 2);
        due("month " + " ".repeat(693) + "3", "5;", 1);
        due("month " + " ".repeat(692), "36;", 2);
        due("month " + " ".repeat(690), "00350;", 1);
        due("month " + " ".repeat(690) + "0035", ";", 1);
        // a NAME is read whole
        String two = "month 0;index steel 1;contract 5 = 0 + 1000 ";
        String wide = two + " ".repeat(696 - two.length());
        due(wide + "stee", "l base 0" + RULE, 1);
        due(wide, "steal base 0" + RULE, 3);
        due(wide, "steelsand base 0" + RULE, 1);
        // a WORD of 8 letters to the tape's end
        due(two + " ".repeat(699 - two.length()), "s".repeat(8), 3);
        due(two + " ".repeat(699 - two.length()), "s".repeat(9), 1);
        due(two + " ".repeat(699 - two.length()), "s".repeat(41), 1);
    }

    private static void faultsAheadOf700() {
        String more = " ".repeat(720);
        due("", "?" + more, 1);
        due("month ", "36;" + more, 2);
        due("month 0;" + " ".repeat(691), "?" + " ".repeat(20), 1);
        due("month 0;" + " ".repeat(691), ";" + " ".repeat(20), 1);
        due(SIX + " ".repeat(699 - SIX.length()), "index g 1;", 4);
        due("month 0;contract 5 = 999 " + " ".repeat(674), "base 0" + RULE, 5);
        String month = "month 1;index a 1;contract 5 = 1000 + 0 a base ";
        due(month + " ".repeat(699 - month.length()), "1" + RULE, 5);
        due(month + " ".repeat(700 - month.length()), "1" + RULE, 1);
    }

    private static void wrongNumbers() {
        Checks.says("2 a NUMBER that is not as told");
        due("month  ", "36;", 2);
        due("month 0;index a ", "1000;", 2);
        due("month 0;contract ", "0 = 1000 base 0" + RULE, 2);
        due("month 0;contract 5 = ", "1001 base 0" + RULE, 2);
        due("month 0;index a 1;contract 5 = 0 + ", "1001 a base 0" + RULE, 2);
        due("month 0;contract 5 = 1000 base ", "1" + RULE, 2);
        due("month 0;contract 5 = 1000 base 0 all ", "1000 share 0;", 2);
        due("month 0;contract 5 = 1000 base 0 all 0 share ", "101;", 2);
    }

    private static void aValueTooMany() {
        Checks.says("a VALUE too many (at it)");
        due("month 0;index a 1 ", "2;", 2);
        due("month 1;index a 1 2 ", "3 4 5;", 2);
        due("month 1;index a 1 2  ", "0;", 2);
        due("month 1;index a 1 2\n", "3", 2);
        String all = " 9".repeat(36);
        due("month 35;index a" + all + " ", "9;", 2);
        Checks.dueLines("month 35;index a" + all + ";", 2);
    }

    private static void wrongNames() {
        Checks.says("3 a NAME told twice, not told, in the formula already (at it)");
        due("month 0;index a 1;index ", "a 1;", 3);
        due("month 0;index a 1;index b 1;index  ", "a", 3);
        due("month 0;index a 1;contract 5 = 0 + 1000 ", "b base 0" + RULE, 3);
        due("month 0;contract 5 = 0 + 1000  ", "b", 3);
        due("month 0;index a 1;contract 5 = 0 + 500 a + 500 ", "a base 0" + RULE, 3);
        due("month 0;index a 1;index b 1;contract 5 = 0 + 500 b + 250 a + 250 ", "b", 3);
    }

    private static void oneMoreOfASort() {
        Checks.says("4 one more of a sort than told (at its WORD)");
        due(SIX, "index g 1;", 4);
        due(SIX + " \n", "index", 4);
        StringBuilder contracts = new StringBuilder("month 0;");
        for (int k = 0; k < 6; k++) {
            contracts.append("contract 5 = 1000 base 0").append(RULE);
        }
        Checks.dueLines(contracts.toString(), 7);
        due(contracts.toString(), "contract 5 = 1000 base 0" + RULE, 4);
        due(contracts + " ", "contract", 4);
        // six of one sort leave the other free
        due(contracts + "index ", "?", 1);
        due(SIX + "contract ", "?", 1);
    }

    private static void notAThousand() {
        Checks.says("5 FIXED and WEIGHTS are not 1000 together (at 'base')");
        due("month 0;contract 5 = 999 ", "base 0" + RULE, 5);
        due("month 0;contract 5 = 0  ", "base", 5);
        due("month 0;index a 1;contract 5 = 1000 + 1 a ", "base 0" + RULE, 5);
        due("month 0;index a 1;contract 5 = 999 + 2 a ", "base 0" + RULE, 5);
    }

    private static void noValueOfTheMonth() {
        Checks.says("an index has no VALUE of MONTH (at the MONTH)");
        due("month 1;index a 1;contract 5 = 0 + 1000 a base ", "1" + RULE, 5);
        due("month 1;index a 1;contract 5 = 1000 + 0 a base  ", "1", 5);
        due("month 35;index a 1;contract 5 = 1000 + 0 a base ", "35" + RULE, 5);
    }
}
