/** Promises 4 and 5: text and fault; TOKENS, TEXT, LINE, FAULTS. */
public final class TextTest {
    private static final String HEAD = "month 2;index a 1 2 3;index b 4 5;";

    public static void main(String[] args) {
        wholeTexts();
        tokens();
        firstLine();
        indexLines();
        names();
        contractLines();
        tooManyOfASort();
        longTexts();
        aFaultLeavesAll();
        aNewTextBeginsAnew();
        Checks.finish("TextTest");
    }

    private static void wholeTexts() {
        Checks.dueLines("", 0);
        Checks.dueLines(" \n ", 0);
        Checks.dueLines("month 0;", 1);
        Checks.dueLines("month 35 ;\n", 1);
    }

    private static void tokens() {
        // A word goes on as long as letters and digits do.
        Checks.dueFault("month0;", 0, 1);
        Checks.dueFault("month 0x;", 6, 1);
        Checks.dueFault("month 00000;", 6, 1);
        Checks.dueLines("month 0003;", 1);
        Checks.dueLines("month\n1\n;index a\n1;", 2);
        Checks.dueFault("month 1;index abcdefghi 1;", 14, 1);
        Checks.dueLines("month 1;index abcdefgh 1;", 2);
        Checks.dueFault("month 1;index a2 1;", 14, 1);
        Checks.dueFault("Month 1;", 0, 1);
        Checks.dueFault("month\t1;", 5, 1);
        Checks.dueFault("month\r1;", 5, 1);
        Checks.dueFault("month 1.", 7, 1);
        Checks.dueFault("month 1;\0", 8, 1);
        Checks.dueFault("month 1;\u00e9", 8, 1);
        Checks.dueFault("month 1;index aB 1;", 15, 1);
        Checks.dueFault("month -1;", 6, 1);
    }

    private static void firstLine() {
        Checks.dueFault("index a 1;", 0, 1);
        Checks.dueFault(";", 0, 1);
        Checks.dueFault("  ;", 2, 1);
        Checks.dueFault("1;", 0, 1);
        Checks.dueFault("month", 5, 1);
        Checks.dueFault("month  ", 7, 1);
        Checks.dueFault("month;", 5, 1);
        Checks.dueFault("month index;", 6, 1);
        Checks.dueFault("month 36;", 6, 2);
        Checks.dueFault("month 9999;", 6, 2);
        Checks.dueFault("month 3", 7, 1);
        Checks.dueFault("month 3 4;", 8, 1);
        Checks.dueFault("month 3;;", 8, 1);
        Checks.dueFault("month 3;month 3;", 8, 1);
        Checks.dueFault("month 3;base", 8, 1);
        Checks.dueFault("month 3;steel 4;", 8, 1);
    }

    private static void indexLines() {
        Checks.dueLines("month 1;index a 1 999;", 2);
        Checks.dueFault("month 1;index", 13, 1);
        Checks.dueFault("month 1;index 5 1;", 14, 1);
        Checks.dueFault("month 1;index a;", 15, 1);
        Checks.dueFault("month 1;index a", 15, 1);
        Checks.dueFault("month 1;index a b;", 16, 1);
        Checks.dueFault("month 1;index a 1", 17, 1);
        Checks.dueFault("month 1;index a 1 = ;", 18, 1);
        Checks.dueFault("month 1;index a 0;", 16, 2);
        Checks.dueFault("month 1;index a 1000;", 16, 2);
        Checks.dueFault("month 1;index a 1 0;", 18, 2);
        Checks.dueFault("month 1;index a 1 2 3;", 20, 2);
        Checks.dueFault("month 0;index a 1 2;", 18, 2);
        // of one token the least: no token is 1, even where a value is too many
        Checks.dueFault("month 0;index a 1 20000;", 18, 1);
        Checks.dueFault("month 1;index a 1;index a 2;", 24, 3);
        for (String word : new String[] {"month", "index", "contract", "base", "all", "beyond", "share"}) {
            Checks.dueFault("month 1;index " + word + " 1;", 14, 1);
        }
        StringBuilder many = new StringBuilder("month 35;index a");
        for (int month = 0; month < 36; month++) {
            many.append(" 7");
        }
        Checks.dueLines(many + ";", 2);
        Checks.dueFault(many + " 7;", many.length() + 1, 2);
    }

    private static void names() {
        String three = "month 0;index steel 1;index steal 2;index stee 3;";
        Checks.dueLines(three, 4);
        Checks.dueFault(three + "index steal 1;", three.length() + 6, 3);
        Checks.dueFault(three + "index stee 1;", three.length() + 6, 3);
        Checks.dueLines(three + "index teel 1;index leets 1;", 6);
        String contract = "contract 1 = 0 + 1000 ";
        Checks.dueFault(three + contract + "steels base 0 all 0 share 0;", three.length() + contract.length(), 3);
        PriceDesk desk = Checks.desk(three + contract + "steal base 0 all 0 share 0;"
            + "contract 1 = 0 + 500 stee + 500 steel base 0 all 0 share 0;");
        Checks.due("steal is 1", desk.contract(0, 8), 1);
        Checks.due("stee is 2", desk.contract(1, 8), 2);
        Checks.due("steel is 0", desk.contract(1, 10), 0);
    }

    private static void contractLines() {
        dueContract("contract 5 = 1000 base 0 all 0 share 0;");
        dueContract("contract 9999=0+1000a base 2 beyond 999 share 100;".replace("1000a", "1000 a"));
        dueContract("contract 1 = 0 + 0 b + 1000 a base 1 all 5 share 7;");
        dueContractFault("contract", "", 1);
        dueContractFault("contract ", "a", 1);
        dueContractFault("contract ", "0 = 1000 base 0 all 0 share 0;", 2);
        dueContractFault("contract ", "10000 = 1000 base 0 all 0 share 0;", 1);
        dueContractFault("contract 5 ", "1000 base 0 all 0 share 0;", 1);
        dueContractFault("contract 5 = ", "1001 base 0 all 0 share 0;", 2);
        dueContractFault("contract 5 = ", "+ 1000 a base 0 all 0 share 0;", 1);
        dueContractFault("contract 5 = 0 + ", "1001 a base 0 all 0 share 0;", 2);
        dueContractFault("contract 5 = 0 + ", "a base 0 all 0 share 0;", 1);
        dueContractFault("contract 5 = 0 + 1000 ", "c base 0 all 0 share 0;", 3);
        dueContractFault("contract 5 = 0 + 1000 ", "base 0 all 0 share 0;", 1);
        dueContractFault("contract 5 = 0 + 1000 ", "1 base 0 all 0 share 0;", 1);
        dueContractFault("contract 5 = 0 + 500 a + 500 ", "a base 0 all 0 share 0;", 3);
        dueContractFault("contract 5 = 0 + 500 a ", "; base 0 all 0 share 0;", 1);
        dueContractFault("contract 5 = 0 + 500 a ", "base 0 all 0 share 0;", 5);
        dueContractFault("contract 5 = 1000 + 1 a ", "base 0 all 0 share 0;", 5);
        dueContractFault("contract 5 = 1000 ", "bases 0 all 0 share 0;", 1);
        dueContractFault("contract 5 = 1000 base ", "3 all 0 share 0;", 2);
        dueContractFault("contract 5 = 1000 base ", "all 0 share 0;", 1);
        dueContractFault("contract 5 = 500 + 500 b base ", "2 all 0 share 0;", 5);
        // a term of no weight needs a value too; a month too late is kind 2 first
        dueContractFault("contract 5 = 1000 + 0 b base ", "2 all 0 share 0;", 5);
        dueContractFault("contract 5 = 1000 + 0 b base ", "3 all 0 share 0;", 2);
        dueContractFault("contract 5 = 1000 base 0 ", "any 0 share 0;", 1);
        dueContractFault("contract 5 = 1000 base 0 all ", "1000 share 0;", 2);
        dueContractFault("contract 5 = 1000 base 0 all ", "share 0;", 1);
        dueContractFault("contract 5 = 1000 base 0 beyond 0 ", "0;", 1);
        dueContractFault("contract 5 = 1000 base 0 beyond 0 share ", "101;", 2);
        dueContractFault("contract 5 = 1000 base 0 beyond 0 share ", ";", 1);
        dueContractFault("contract 5 = 1000 base 0 beyond 0 share 1 ", "1;", 1);
        dueContractFault("contract 5 = 1000 base 0 beyond 0 share 1", "", 1);
        // an index told behind the contract is not told yet
        Checks.dueFault("month 0;contract 5 = 0 + 1000 a base 0 all 0 share 0;index a 1;", 30, 3);
    }

    private static void dueContract(String line) {
        Checks.dueLines(HEAD + line, 4);
    }

    private static void dueContractFault(String ahead, String from, int kind) {
        Checks.dueFault(HEAD + ahead + from, HEAD.length() + ahead.length(), kind);
    }

    private static void tooManyOfASort() {
        StringBuilder six = new StringBuilder("month 0;");
        for (char name = 'a'; name <= 'f'; name++) {
            six.append("index ").append(name).append(" 1;");
        }
        Checks.dueLines(six.toString(), 7);
        Checks.dueFault(six + " index ?", six.length() + 1, 4);
        StringBuilder all = new StringBuilder(six);
        for (int k = 0; k < 6; k++) {
            all.append("contract 5=994+1 a+1 b+1 c+1 d+1 e+1 f base 0 all 0 share 0;");
        }
        Checks.dueLines(all.toString(), 13);
        Checks.dueFault(all + "contract", all.length(), 4);
        Checks.dueFault(all + "index", all.length(), 4);
        Checks.dueFault(all + "x", all.length(), 1);
        Checks.dueFault(six + "contract 5=994+1 a+1 b+1 c+1 d+1 e+1 f+0 a base 0 all 0 share 0;",
            six.length() + "contract 5=994+1 a+1 b+1 c+1 d+1 e+1 f+0 ".length(), 3);
    }

    private static void longTexts() {
        Checks.dueLines("month 1;" + " ".repeat(692), 1);
        Checks.dueFault("month 1;" + " ".repeat(693), 700, 1);
        Checks.dueFault(" ".repeat(740), 700, 1);
        Checks.dueLines(" ".repeat(700), 0);
        Checks.dueFault(" ".repeat(690) + "month 1" , 697, 1);
        Checks.dueFault("month 1" + " ".repeat(692) + ";;", 700, 1);
        Checks.dueLines("month 1" + " ".repeat(692) + ";", 1);
        Checks.dueFault("month 1" + " ".repeat(693) + ";", 700, 1);
        // a token that begins ahead of 700 is read whole
        Checks.dueFault("month 1;" + " ".repeat(691) + "index a 1;", 700, 1);
        Checks.dueFault("month 1;" + " ".repeat(691) + "indexes a 1;", 699, 1);
        Checks.dueFault("month 1;" + " ".repeat(692) + "?", 700, 1);
        Checks.dueFault("month 1;" + " ".repeat(691) + "?  ", 699, 1);
        Checks.dueFault("month " + " ".repeat(693) + "36;", 699, 2);
        Checks.dueFault("month " + " ".repeat(693) + "35;", 700, 1);
        Checks.dueFault("month " + " ".repeat(694) + "36;", 700, 1);
        Checks.dueFault("month 1;?" + " ".repeat(720), 8, 1);
    }

    private static void aFaultLeavesAll() {
        PriceDesk desk = Checks.desk("month 1;index a 5 6;contract 8 = 0 + 1000 a base 0 all 0 share 100;");
        desk.deliver(0, 1, 3);
        Checks.due("a fault", Checks.tell(desk, "month 2;index b 7;contract 9 = 5 base"), -34);
        Checks.due("its kind", desk.fault(), 5);
        Checks.due("the tape is empty", desk.now(6), 0);
        Checks.due("now stays", desk.now(0), 1);
        Checks.due("indexes stay", desk.now(1), 1);
        Checks.due("a value stays", desk.value(0, 1, 0), 6);
        Checks.due("a contract stays", desk.contract(0, 0), 8);
        Checks.due("deliveries stay", desk.now(3), 1);
        Checks.due("what can be undone stays", desk.now(5), 1);
        Checks.due("undo works", desk.undo(), 0);
        Checks.due("fault() stays by other calls", desk.fault(), 5);
        Checks.due("a good text", Checks.tell(desk, "month 3;"), 1);
        Checks.due("no fault", desk.fault(), 0);
    }

    private static void aNewTextBeginsAnew() {
        PriceDesk desk = Checks.desk("month 1;index a 5 6;index b 5;contract 8 = 0 + 1000 a base 0 all 0 share 100;");
        desk.publish(1, 1, 9, false);
        desk.deliver(0, 1, 3);
        desk.rebase(0, 1, 50);
        desk.close();
        desk.deliver(0, 2, 3);
        desk.publish(0, 2, 90, true);
        desk.close();
        Checks.due("trued ahead of the new text", desk.amount(1, 1), 21);
        desk.publish(0, 3, 9, false);
        Checks.due("a new text", Checks.tell(desk, "month 4;index z 2;"), 2);
        Checks.due("NOW", desk.now(0), 4);
        Checks.due("indexes", desk.now(1), 1);
        Checks.due("contracts", desk.now(2), 0);
        Checks.due("deliveries", desk.now(3), 0);
        Checks.due("settled", desk.now(4), 0);
        Checks.due("to undo", desk.now(5), 0);
        Checks.due("undo", desk.undo(), PriceDesk.NONE);
        Checks.due("no rebasing", desk.rebased(0, 0, 0), PriceDesk.NONE);
        Checks.due("no value of 1", desk.value(0, 1, 1), 0);
        Checks.due("statement", desk.statement(35, 3), 0);
        Checks.due("the third text", Checks.tell(desk, "month 3;index y 7;contract 2 = 1000 base 3 all 0 share 0;"), 3);
        Checks.due("no value of 2 left over", desk.value(0, 2, 1), 0);
        Checks.due("no rebasing left over", desk.rebased(0, 0, 0), PriceDesk.NONE);
        Checks.due("no term left over", desk.contract(0, 6), 0);
        Checks.due("no delivery left over", desk.statement(35, 3), 0);
        Checks.due("no weight left over", desk.price(0, 3, 0), 1000000);
        Checks.due("nothing waited for", desk.delivery(desk.deliver(0, 3, 1), 8), 0);
        Checks.due("settled", desk.close(), 1);
        Checks.due("an empty text", desk.text(), 0);
        Checks.due("nothing told", desk.now(0) + desk.now(1) + desk.now(2), 0);
    }
}
