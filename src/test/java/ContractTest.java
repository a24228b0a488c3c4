/** Promises 10, 11, 12 and 13: contract, price, were, rises; FACTOR, MOVE, PRICE. */
public final class ContractTest {
    private static final int NONE = PriceDesk.NONE;

    public static void main(String[] args) {
        told();
        factors();
        movesOfAll();
        movesBeyond();
        movesDown();
        rounding();
        chained();
        prices();
        wereOne();
        wereAtTheBase();
        risings();
        Checks.finish("ContractTest");
    }

    private static void told() {
        PriceDesk desk = Checks.desk("month 3;index a 1 2;index b 3 4;"
            + "contract 77 = 100 + 0 b + 900 a base 1 beyond 12 share 34;contract 5 = 1000 base 3 all 0 share 100;");
        int[] due = {77, 100, 1, 12, 34, 1, 2, 0, 1, 900, 0, NONE, NONE};
        for (int what = 0; what < due.length; what++) {
            Checks.due("contract(0, " + what + ")", desk.contract(0, what), due[what]);
        }
        int[] dueOther = {5, 1000, 3, 0, 100, 0, 0, NONE, NONE};
        for (int what = 0; what < dueOther.length; what++) {
            Checks.due("contract(1, " + what + ")", desk.contract(1, what), dueOther[what]);
        }
        Checks.due("what -1", desk.contract(0, -1), NONE);
        Checks.due("what MIN", desk.contract(0, Integer.MIN_VALUE), NONE);
        Checks.due("what MAX", desk.contract(0, Integer.MAX_VALUE), NONE);
        Checks.due("contract 2", desk.contract(2, 0), NONE);
        Checks.due("contract -1", desk.contract(-1, 0), NONE);
    }

    private static void factors() {
        PriceDesk desk = Checks.desk("month 6;index a 3 7;index b 7 8 3;index c 9;"
            + "contract 1 = 1 + 333 a + 333 b + 333 c base 0 all 0 share 0;");
        Checks.due("base", desk.price(0, 0, 0), 1000000);
        long month1 = (1L * 1000000 + 333 * 2333333L + 333 * 1142857L + 333 * 1000000L) / 1000;
        Checks.due("month 1", desk.price(0, 1, 0), month1);
        long month2 = (1L * 1000000 + 333 * 2333333L + 333 * 428571L + 333 * 1000000L) / 1000;
        Checks.due("month 2: what is known of a is of 1", desk.price(0, 2, 0), month2);
        Checks.due("month 6: by what is known", desk.price(0, 6, 0), month2);
        desk.publish(1, 6, 14, false);
        long month6 = (1L * 1000000 + 333 * 2333333L + 333 * 2000000L + 333 * 1000000L) / 1000;
        Checks.due("month 6", desk.price(0, 6, 0), month6);
        Checks.due("month 5 stays", desk.price(0, 5, 0), month2);
    }

    private static PriceDesk moving(String rule) {
        return Checks.desk("month 9;index a 200 200 201 210 211 220 400 100 190;"
            + "contract 1000 = 0 + 1000 a base 0 " + rule + ";");
    }

    private static void dueMoves(PriceDesk desk, int... moves) {
        for (int month = 0; month < moves.length; month++) {
            Checks.due("move of " + month, desk.price(0, month, 1), moves[month]);
        }
    }

    private static void movesOfAll() {
        dueMoves(moving("all 50 share 100"), 0, 0, 0, 0, 55000, 100000, 1000000, -500000, 0, 0);
        dueMoves(moving("all 0 share 100"), 0, 0, 5000, 50000, 55000, 100000, 1000000, -500000, -50000, -50000);
        dueMoves(moving("all 54 share 50"), 0, 0, 0, 0, 27500, 50000, 500000, -250000, 0, 0);
        dueMoves(moving("all 55 share 50"), 0, 0, 0, 0, 0, 50000, 500000, -250000, 0, 0);
        dueMoves(moving("all 0 share 0"), 0, 0, 0, 0, 0, 0, 0, 0, 0, 0);
        dueMoves(moving("all 999 share 100"), 0, 0, 0, 0, 0, 0, 1000000, 0, 0, 0);
    }

    private static void movesBeyond() {
        dueMoves(moving("beyond 50 share 100"), 0, 0, 0, 0, 5000, 50000, 950000, -450000, 0, 0);
        dueMoves(moving("beyond 49 share 10"), 0, 0, 0, 100, 600, 5100, 95100, -45100, -100, -100);
        dueMoves(moving("beyond 0 share 100"), 0, 0, 5000, 50000, 55000, 100000, 1000000, -500000, -50000, -50000);
    }

    private static void movesDown() {
        // a part is cut towards 0 on both sides
        PriceDesk desk = Checks.desk("month 2;index a 3 2 4;contract 1000 = 0 + 1000 a base 0 all 0 share 1;");
        Checks.due("factor down", desk.price(0, 1, 0), 666666);
        Checks.due("move down", desk.price(0, 1, 1), -3333);
        Checks.due("move up", desk.price(0, 2, 1), 3333);
    }

    private static void rounding() {
        PriceDesk desk = Checks.desk("month 3;index a 200 201 199 299;contract 100 = 0 + 1000 a base 0 all 0 share 100;"
            + "contract 9999 = 0 + 1000 a base 0 all 0 share 100;contract 1 = 0 + 1000 a base 0 all 0 share 100;");
        Checks.due("100.5 is 101", desk.price(0, 1, 2), 101);
        Checks.due("99.5 is 100", desk.price(0, 2, 2), 100);
        Checks.due("149.5 is 150", desk.price(0, 3, 2), 150);
        Checks.due("10048.995 is 10049", desk.price(1, 1, 2), 10049);
        Checks.due("1.495 is 1", desk.price(2, 3, 2), 1);
    }

    private static void chained() {
        PriceDesk desk = Checks.desk("month 5;index a 80 100;contract 1000 = 500 + 500 a base 0 all 0 share 100;");
        desk.rebase(0, 1, 50);
        Checks.due("known is of the rebased month", desk.price(0, 5, 0), 1125000);
        desk.publish(0, 3, 60, false);
        Checks.due("across the rebasing", desk.price(0, 4, 0), 1250000);
        Checks.due("price", desk.price(0, 4, 2), 1250);
        Checks.due("ahead of it", desk.price(0, 2, 2), 1125);
    }

    private static void prices() {
        PriceDesk desk = Checks.desk("month 3;index a 100 110 121;contract 500 = 0 + 1000 a base 1 all 0 share 100;");
        Checks.due("base", desk.price(0, 1, 2), 500);
        Checks.due("NOW", desk.price(0, 3, 2), 550);
        Checks.dueNoSuchElement("ahead of base", () -> desk.price(0, 0, 2));
        Checks.dueNoSuchElement("behind NOW", () -> desk.price(0, 4, 2));
        Checks.dueNoSuchElement("month -1", () -> desk.price(0, -1, 2));
        Checks.dueNoSuchElement("contract 1", () -> desk.price(1, 1, 2));
        Checks.dueNoSuchElement("contract -1", () -> desk.price(-1, 1, 2));
        Checks.dueNoSuchElement("what 3", () -> desk.price(0, 1, 3));
        Checks.dueNoSuchElement("what -1", () -> desk.price(0, 1, -1));
        desk.close();
        Checks.due("the next month", desk.price(0, 4, 2), 550);
        PriceDesk most = Checks.desk("month 1;index a 1 999;contract 9999 = 0 + 1000 a base 0 all 0 share 100;");
        Checks.due("most factor", most.price(0, 1, 0), 99999999);
        Checks.due("most move", most.price(0, 1, 1), 98999999);
        Checks.due("most price", most.price(0, 1, 2), 999900);
        PriceDesk least = Checks.desk("month 1;index a 999 1;contract 4 = 0 + 1000 a base 0 all 0 share 100;");
        Checks.due("least price", least.price(0, 1, 2), 0);
    }

    private static void wereOne() {
        PriceDesk desk = Checks.desk("month 3;index a 100 110;index b 50;"
            + "contract 1000 = 0 + 500 a + 500 b base 0 all 0 share 100;");
        Checks.due("were 200", desk.were(0, 0, 200), 1500);
        Checks.due("were 999", desk.were(0, 1, 999), 10540);
        Checks.due("were 1", desk.were(0, 1, 1), 560);
        Checks.due("nothing moved", desk.price(0, 3, 2), 1050);
        Checks.due("no value came", desk.value(0, 3, 1), 0);
        desk.publish(0, 3, 120, true);
        Checks.due("were another than the final one", desk.were(0, 0, 100), 1000);
        Checks.due("it stays", desk.value(0, 3, 0), 120);
        Checks.due("it stays final", desk.value(0, 3, 1), 2);
        desk.rebase(0, 3, 60);
        Checks.due("a rebasing at NOW does not count", desk.were(0, 0, 100), 1000);
        desk.close();
        Checks.due("across the rebasing", desk.were(0, 0, 60), 1100);
        desk.publish(1, 4, 70, false);
        Checks.due("were another than a provisional one", desk.were(0, 1, 50), 1100);
        Checks.due("that stays provisional", desk.value(1, 4, 1), 1);
        Checks.due("that stays", desk.value(1, 4, 0), 70);
        Checks.due("v 0", desk.were(0, 0, 0), NONE);
        Checks.due("v 1000", desk.were(0, 0, 1000), NONE);
        Checks.due("contract 1", desk.were(1, 0, 5), NONE);
        Checks.due("contract -1", desk.were(-1, 0, 5), NONE);
        Checks.due("index 2", desk.were(0, 2, 5), NONE);
        Checks.due("index -1", desk.were(0, -1, 5), NONE);
        PriceDesk other = Checks.desk("month 1;index a 100 110;index b 5;contract 10 = 0 + 1000 a base 0 all 0 share 100;");
        Checks.due("an index that is no term", other.were(0, 1, 500), 11);
    }

    private static void wereAtTheBase() {
        // NOW is the base month: the value that it were is the first and the later one
        PriceDesk desk = Checks.desk("month 1;index a 100 110;contract 10 = 0 + 1000 a base 1 all 0 share 100;");
        Checks.due("were", desk.were(0, 0, 220), 10);
        Checks.due("rises", desk.rises(0, 0), -2);
        Checks.due("it stays", desk.value(0, 1, 0), 110);
    }

    private static void risings() {
        PriceDesk desk = Checks.desk("month 1;index a 100;index b 100 300;index c 4;index d 999;"
            + "contract 1000 = 0 + 1000 a base 0 all 0 share 100;contract 10 = 0 + 1000 a base 0 all 0 share 100;"
            + "contract 1000 = 0 + 1000 a base 0 beyond 100 share 50;contract 10 = 1000 + 0 a base 0 all 0 share 100;"
            + "contract 10 = 0 + 500 a + 500 b base 0 all 0 share 100;contract 10 = 0 + 1000 d base 0 all 0 share 100;");
        Checks.due("from 101", desk.rises(0, 0), 101);
        Checks.due("half a unit is a rise", desk.rises(1, 0), 105);
        Checks.due("beyond the threshold", desk.rises(2, 0), 111);
        Checks.due("no weight", desk.rises(3, 0), -2);
        Checks.due("another lifts it already", desk.rises(4, 0), 1);
        Checks.due("of that other", desk.rises(4, 1), 110);
        Checks.due("never", desk.rises(5, 3), -2);
        Checks.due("no term", desk.rises(0, 1), -2);
        Checks.due("no term, above already", desk.rises(4, 2), 1);
        desk.publish(0, 1, 999, true);
        Checks.due("were 101 the value, though it is 999", desk.rises(0, 0), 101);
        Checks.due("contract 6", desk.rises(6, 0), NONE);
        Checks.due("contract -1", desk.rises(-1, 0), NONE);
        Checks.due("index 4", desk.rises(0, 4), NONE);
        Checks.due("index -1", desk.rises(0, -1), NONE);
        PriceDesk last = Checks.desk("month 1;index a 998;contract 9999 = 0 + 1000 a base 0 all 0 share 100;"
            + "contract 9999 = 0 + 1000 a base 0 all 2 share 100;");
        Checks.due("999 alone", last.rises(0, 0), 999);
        Checks.due("not even 999", last.rises(1, 0), -2);
    }
}
