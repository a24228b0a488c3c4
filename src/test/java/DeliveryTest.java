/** Promises 14, 15, 16, 19 and 20: delivery, amount, statement, deliver, close. */
public final class DeliveryTest {
    private static final int NONE = PriceDesk.NONE;

    public static void main(String[] args) {
        billed();
        late();
        waiting();
        settledAndTrued();
        theMonthStays();
        statements();
        refused();
        closing();
        Checks.finish("DeliveryTest");
    }

    private static void dueRow(PriceDesk desk, int delivery, int... figures) {
        for (int what = 0; what < figures.length; what++) {
            Checks.due("delivery(" + delivery + ", " + what + ")", desk.delivery(delivery, what), figures[what]);
        }
    }

    private static void dueAmounts(PriceDesk desk, int delivery, long billed, long trued) {
        Checks.due("BILLED of " + delivery, desk.amount(delivery, 0), billed);
        Checks.due("TRUED of " + delivery, desk.amount(delivery, 1), trued);
        Checks.due("both of " + delivery, desk.amount(delivery, 2), billed + trued);
    }

    private static void billed() {
        PriceDesk desk = Checks.desk("month 2;index a 100 110;contract 50 = 0 + 1000 a base 0 all 0 share 100;");
        Checks.due("number", desk.deliver(0, 2, 999), 0);
        dueRow(desk, 0, 0, 2, 2, 999, 2, 55, 0, NONE, 1);
        dueAmounts(desk, 0, 54945, 0);
        Checks.due("what 9", desk.delivery(0, 9), NONE);
        Checks.due("what -1", desk.delivery(0, -1), NONE);
        Checks.due("delivery 1", desk.delivery(1, 0), NONE);
        Checks.due("delivery -1", desk.delivery(-1, 0), NONE);
        Checks.dueNoSuchElement("amount what 3", () -> desk.amount(0, 3));
        Checks.dueNoSuchElement("amount what -1", () -> desk.amount(0, -1));
        Checks.dueNoSuchElement("amount of 1", () -> desk.amount(1, 0));
        Checks.dueNoSuchElement("amount of -1", () -> desk.amount(-1, 0));
        desk.publish(0, 2, 130, false);
        Checks.due("the price as it was billed", desk.delivery(0, 5), 55);
        Checks.due("the price now", desk.price(0, 2, 2), 65);
        dueAmounts(desk, 0, 54945, 0);
    }

    private static void late() {
        PriceDesk desk = Checks.desk("month 3;index a 100 120 90 110;contract 100 = 0 + 1000 a base 0 all 0 share 100;");
        desk.deliver(0, 0, 2);
        desk.deliver(0, 1, 2);
        desk.deliver(0, 2, 2);
        desk.deliver(0, 3, 2);
        dueRow(desk, 0, 0, 0, 3, 2, 0, 100);
        dueRow(desk, 1, 0, 1, 3, 2, 3, 110);
        dueRow(desk, 2, 0, 2, 3, 2, 2, 90);
        dueRow(desk, 3, 0, 3, 3, 2, 3, 110);
        // of like prices it is DUE
        PriceDesk like = Checks.desk("month 2;index a 100 100 100;contract 100 = 0 + 1000 a base 0 all 0 share 100;");
        like.deliver(0, 1, 1);
        dueRow(like, 0, 0, 1, 2, 1, 1, 100);
    }

    private static void waiting() {
        PriceDesk desk = Checks.desk("month 2;index a 1 1 1;index b 1;index c 1;index d 1;"
            + "contract 10 = 0 + 300 d + 300 b + 400 a + 0 c base 0 all 0 share 100;contract 7 = 1000 base 0 all 0 share 0;");
        desk.deliver(0, 2, 1);
        desk.deliver(1, 2, 1);
        Checks.due("b and d", desk.delivery(0, 8), 10);
        Checks.due("none", desk.delivery(1, 8), 0);
        desk.publish(1, 2, 3, false);
        Checks.due("a provisional one does not do", desk.delivery(0, 8), 10);
        desk.publish(1, 2, 3, true);
        Checks.due("d", desk.delivery(0, 8), 8);
        Checks.due("one is settled", desk.close(), 1);
        Checks.due("the second", desk.delivery(1, 6), 1);
        desk.publish(3, 3, 3, true);
        Checks.due("a later month does not do", desk.delivery(0, 8), 8);
        desk.publish(3, 2, 4, true);
        Checks.due("nothing more", desk.delivery(0, 8), 0);
        Checks.due("but not settled", desk.delivery(0, 6), 0);
        Checks.due("as the month ends", desk.close(), 1);
        dueRow(desk, 0, 0, 2, 2, 1, 2, 10, 1, 3, 0);
        dueRow(desk, 1, 1, 2, 2, 1, 2, 7, 1, 2, 0);
        Checks.due("none twice", desk.close(), 0);
        Checks.due("as which month ended", desk.delivery(0, 7), 3);
    }

    private static void settledAndTrued() {
        PriceDesk desk = Checks.desk("month 1;index a 100;contract 1000 = 0 + 1000 a base 0 all 0 share 100;");
        desk.publish(0, 1, 120, false);
        desk.deliver(0, 1, 10);
        desk.publish(0, 1, 90, false);
        Checks.due("not yet", desk.close(), 0);
        dueAmounts(desk, 0, 12000, 0);
        desk.publish(0, 1, 110, true);
        dueAmounts(desk, 0, 12000, 0);
        Checks.due("now", desk.close(), 1);
        dueAmounts(desk, 0, 12000, -1000);
        Checks.due("price as billed", desk.delivery(0, 5), 1200);
        desk.publish(0, 3, 500, true);
        desk.close();
        dueAmounts(desk, 0, 12000, -1000);
    }

    private static void theMonthStays() {
        // frozen at DUE by the lesser price; the final value makes it dearer, the month stays
        PriceDesk desk = Checks.desk("month 3;index a 100;contract 100 = 0 + 1000 a base 0 all 0 share 100;");
        desk.publish(0, 2, 90, false);
        desk.publish(0, 3, 95, true);
        desk.deliver(0, 2, 4);
        dueRow(desk, 0, 0, 2, 3, 4, 2, 90, 0, NONE, 1);
        desk.publish(0, 2, 150, true);
        Checks.due("settled", desk.close(), 1);
        dueRow(desk, 0, 0, 2, 3, 4, 2, 90, 1, 3, 0);
        dueAmounts(desk, 0, 360, 240);
    }

    private static void statements() {
        PriceDesk desk = Checks.desk("month 1;index a 100;contract 100 = 0 + 1000 a base 0 all 0 share 100;"
            + "contract 3 = 1000 base 0 all 0 share 0;");
        desk.deliver(0, 1, 5);
        desk.deliver(1, 0, 7);
        desk.publish(0, 1, 130, true);
        desk.deliver(0, 1, 1);
        desk.close();
        desk.deliver(0, 2, 2);
        desk.publish(0, 2, 120, true);
        desk.close();
        dueStatement(desk, 0, 0, 0, 0);
        dueStatement(desk, 1, 500 + 21 + 130, 150, 801);
        dueStatement(desk, 2, 260, -20, 1041);
        dueStatement(desk, 3, 0, 0, 1041);
        dueStatement(desk, 35, 0, 0, 1041);
        Checks.dueNoSuchElement("month 36", () -> desk.statement(36, 0));
        Checks.dueNoSuchElement("month -1", () -> desk.statement(-1, 3));
        Checks.dueNoSuchElement("what 4", () -> desk.statement(0, 4));
        Checks.dueNoSuchElement("what -1", () -> desk.statement(0, -1));
    }

    private static void dueStatement(PriceDesk desk, int month, long billed, long trued, long all) {
        Checks.due("billed in " + month, desk.statement(month, 0), billed);
        Checks.due("trued in " + month, desk.statement(month, 1), trued);
        Checks.due("together in " + month, desk.statement(month, 2), billed + trued);
        Checks.due("all up to " + month, desk.statement(month, 3), all);
    }

    private static void refused() {
        PriceDesk desk = Checks.desk("month 3;index a 5 5;contract 100 = 0 + 1000 a base 1 all 0 share 100;");
        Checks.due("ahead of base", desk.deliver(0, 0, 5), NONE);
        Checks.due("behind NOW", desk.deliver(0, 4, 5), NONE);
        Checks.due("quantity 0", desk.deliver(0, 3, 0), NONE);
        Checks.due("quantity 1000", desk.deliver(0, 3, 1000), NONE);
        Checks.due("contract 1", desk.deliver(1, 3, 5), NONE);
        Checks.due("contract -1", desk.deliver(-1, 3, 5), NONE);
        Checks.due("nothing done", desk.now(5), 0);
        for (int number = 0; number < 30; number++) {
            Checks.due("number", desk.deliver(0, 1 + number % 3, 1 + number), number);
        }
        Checks.due("30 are there", desk.deliver(0, 3, 5), -2);
        Checks.due("30 are there, but no such contract", desk.deliver(1, 3, 5), NONE);
        Checks.due("30", desk.now(3), 30);
        Checks.due("the last", desk.delivery(29, 3), 30);
        desk.undo();
        Checks.due("one less", desk.deliver(0, 3, 999), 29);
        Checks.due("the last anew", desk.delivery(29, 3), 999);
    }

    private static void closing() {
        PriceDesk desk = new PriceDesk();
        for (int month = 0; month < 35; month++) {
            Checks.due("NOW", desk.now(0), month);
            Checks.due("close", desk.close(), 0);
        }
        Checks.due("NOW is 35", desk.now(0), 35);
        Checks.due("no more", desk.close(), NONE);
        Checks.due("still 35", desk.now(0), 35);
        Checks.due("undone", desk.undo(), 7);
        Checks.due("34", desk.now(0), 34);
    }
}
