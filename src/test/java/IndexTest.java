/** Promises 7, 8, 9, 17 and 18: value, rebased, ratio, publish, rebase. */
public final class IndexTest {
    private static final int NONE = PriceDesk.NONE;

    public static void main(String[] args) {
        values();
        publishing();
        rebasing();
        rebasingRefused();
        ratios();
        chainedRatios();
        ratioLimits();
        Checks.finish("IndexTest");
    }

    private static void values() {
        PriceDesk desk = Checks.desk("month 5;index a 10 20;index b 7;");
        desk.publish(0, 3, 30, false);
        dueValue(desk, 0, 0, 10, 2, 10, 0);
        dueValue(desk, 0, 1, 20, 2, 20, 1);
        dueValue(desk, 0, 2, NONE, 0, 20, 1);
        dueValue(desk, 0, 3, 30, 1, 30, 3);
        dueValue(desk, 0, 4, NONE, 0, 30, 3);
        dueValue(desk, 0, 35, NONE, 0, 30, 3);
        dueValue(desk, 1, 5, NONE, 0, 7, 0);
        Checks.due("no such index", desk.value(2, 0, 0), NONE);
        Checks.due("index -1", desk.value(-1, 0, 0), NONE);
        Checks.due("month 36", desk.value(0, 36, 2), NONE);
        Checks.due("month -1", desk.value(0, -1, 1), NONE);
        Checks.due("what 4", desk.value(0, 0, 4), NONE);
        Checks.due("what -1", desk.value(0, 0, -1), NONE);
    }

    private static void dueValue(PriceDesk desk, int index, int month, int value, int kind, int known, int of) {
        String which = " of " + index + " for " + month;
        Checks.due("value" + which, desk.value(index, month, 0), value);
        Checks.due("kind" + which, desk.value(index, month, 1), kind);
        Checks.due("known" + which, desk.value(index, month, 2), known);
        Checks.due("month of known" + which, desk.value(index, month, 3), of);
    }

    private static void publishing() {
        PriceDesk desk = Checks.desk("month 3;index a 10;");
        Checks.due("first", desk.publish(0, 2, 1, false), 0);
        Checks.due("again", desk.publish(0, 2, 999, false), 1);
        Checks.due("final", desk.publish(0, 2, 5, true), 999);
        Checks.due("a final one is there", desk.publish(0, 2, 6, true), -2);
        Checks.due("provisional on final", desk.publish(0, 2, 6, false), -2);
        Checks.due("it stays", desk.value(0, 2, 0), 5);
        Checks.due("one told is final", desk.publish(0, 0, 6, false), -2);
        Checks.due("of NOW", desk.publish(0, 3, 8, true), 0);
        Checks.due("an earlier one later", desk.publish(0, 1, 8, false), 0);
        Checks.due("behind NOW", desk.publish(0, 4, 8, true), NONE);
        Checks.due("month -1", desk.publish(0, -1, 8, true), NONE);
        Checks.due("value 0", desk.publish(0, 1, 0, true), NONE);
        Checks.due("value 1000", desk.publish(0, 1, 1000, true), NONE);
        Checks.due("value 0 where a final one is", desk.publish(0, 2, 0, true), NONE);
        Checks.due("index 1", desk.publish(1, 1, 5, true), NONE);
        Checks.due("index -1", desk.publish(-1, 1, 5, true), NONE);
        Checks.due("five are done", desk.now(5), 5);
    }

    private static void rebasing() {
        PriceDesk desk = Checks.desk("month 9;index a 10 20;index b 5;");
        desk.publish(0, 3, 30, false);
        Checks.due("provisional", desk.rebase(0, 3, 100), -2);
        Checks.due("a later value", desk.rebase(0, 1, 100), -3);
        desk.publish(0, 3, 31, true);
        Checks.due("first", desk.rebase(0, 3, 100), 1);
        Checks.due("earlier, provisional or none", desk.publish(0, 2, 7, false), -3);
        Checks.due("at this one a final is there", desk.publish(0, 3, 7, true), -2);
        Checks.due("later", desk.publish(0, 4, 101, true), 0);
        Checks.due("second", desk.rebase(0, 4, 1), 2);
        desk.publish(0, 7, 2, true);
        Checks.due("third", desk.rebase(0, 7, 999), 3);
        dueRebased(desk, 0, 3, 31, 100);
        dueRebased(desk, 1, 4, 101, 1);
        dueRebased(desk, 2, 7, 2, 999);
        Checks.due("no fourth", desk.rebased(0, 3, 0), NONE);
        Checks.due("k -1", desk.rebased(0, -1, 0), NONE);
        Checks.due("what 3", desk.rebased(0, 0, 3), NONE);
        Checks.due("what -1", desk.rebased(0, 0, -1), NONE);
        Checks.due("index 2", desk.rebased(2, 0, 0), NONE);
        Checks.due("index -1", desk.rebased(-1, 0, 0), NONE);
        Checks.due("the other was not", desk.rebased(1, 0, 0), NONE);
        Checks.due("3 times already, at the same month", desk.rebase(0, 7, 5), -3);
        Checks.due("no final there is ahead of 3 times", desk.rebase(0, 8, 5), -2);
        desk.publish(0, 8, 998, true);
        Checks.due("3 times already", desk.rebase(0, 8, 5), -4);
        Checks.due("value of the rebased month stays", desk.value(0, 7, 0), 2);
    }

    private static void dueRebased(PriceDesk desk, int k, int month, int old, int fresh) {
        Checks.due("month of " + k, desk.rebased(0, k, 0), month);
        Checks.due("OLD of " + k, desk.rebased(0, k, 1), old);
        Checks.due("NEW of " + k, desk.rebased(0, k, 2), fresh);
    }

    private static void rebasingRefused() {
        PriceDesk desk = Checks.desk("month 2;index a 10 20;");
        Checks.due("NEW 0", desk.rebase(0, 1, 0), NONE);
        Checks.due("NEW 1000", desk.rebase(0, 1, 1000), NONE);
        Checks.due("behind NOW", desk.rebase(0, 3, 5), NONE);
        Checks.due("month -1", desk.rebase(0, -1, 5), NONE);
        Checks.due("index 1", desk.rebase(1, 1, 5), NONE);
        Checks.due("index -1", desk.rebase(-1, 1, 5), NONE);
        Checks.due("no value", desk.rebase(0, 2, 5), -2);
        Checks.due("a later one has a value", desk.rebase(0, 0, 5), -3);
        desk.publish(0, 2, 4, false);
        Checks.due("a later provisional one", desk.rebase(0, 1, 5), -3);
        Checks.due("one is done", desk.now(5), 1);
    }

    private static void ratios() {
        PriceDesk desk = Checks.desk("month 6;index a 300 100 200;index b 1;");
        Checks.due("down", desk.ratio(0, 0, 1), 333333);
        Checks.due("up", desk.ratio(0, 1, 2), 2000000);
        Checks.due("rounded down", desk.ratio(0, 0, 2), 666666);
        Checks.due("that one", desk.ratio(0, 2, 2), 1000000);
        desk.publish(0, 5, 400, false);
        Checks.due("a provisional one counts", desk.ratio(0, 0, 5), 1333333);
        Checks.dueNoSuchElement("the first is later", () -> desk.ratio(0, 2, 1));
        Checks.dueNoSuchElement("no value of 3", () -> desk.ratio(0, 0, 3));
        Checks.dueNoSuchElement("no value of the first", () -> desk.ratio(0, 3, 5));
        Checks.dueNoSuchElement("no value of both", () -> desk.ratio(0, 3, 3));
        Checks.dueNoSuchElement("month -1", () -> desk.ratio(0, -1, 0));
        Checks.dueNoSuchElement("month 36", () -> desk.ratio(0, 0, 36));
        Checks.dueNoSuchElement("index 2", () -> desk.ratio(2, 0, 0));
        Checks.dueNoSuchElement("index -1", () -> desk.ratio(-1, 0, 0));
    }

    private static void chainedRatios() {
        PriceDesk desk = Checks.desk("month 9;index a 90 120 150;");
        desk.rebase(0, 2, 100);
        desk.publish(0, 4, 130, true);
        desk.rebase(0, 4, 50);
        desk.publish(0, 6, 55, false);
        Checks.due("to the rebased month: by the old base", desk.ratio(0, 0, 2), 1666666);
        Checks.due("across one", desk.ratio(0, 0, 4), 130L * 150 * 1000000 / (90 * 100));
        Checks.due("across both", desk.ratio(0, 1, 6), 55L * 150 * 130 * 1000000 / (120L * 100 * 50));
        Checks.due("from the rebased month on", desk.ratio(0, 2, 4), 1300000);
        Checks.due("from the first across both", desk.ratio(0, 2, 6), 55L * 150 * 130 * 1000000 / (150L * 100 * 50));
        Checks.due("from the second", desk.ratio(0, 4, 6), 1100000);
        Checks.due("the rebased month itself", desk.ratio(0, 4, 4), 1000000);
    }

    private static void ratioLimits() {
        PriceDesk desk = Checks.desk("month 9;index a 1 99 100 999;index b 999 1;");
        Checks.due("99 times", desk.ratio(0, 0, 1), 99000000);
        Checks.due("100 times is cut", desk.ratio(0, 0, 2), 99999999);
        Checks.due("999 times is cut", desk.ratio(0, 0, 3), 99999999);
        Checks.due("small", desk.ratio(1, 0, 1), 1001);
        desk.rebase(0, 3, 1);
        desk.publish(0, 4, 999, true);
        desk.rebase(0, 4, 1);
        desk.publish(0, 5, 999, true);
        desk.rebase(0, 5, 1);
        desk.publish(0, 6, 999, true);
        Checks.due("the greatest", desk.ratio(0, 0, 6), 99999999);
        Checks.due("99,999,999 by another way", desk.ratio(0, 2, 6), 99999999);
        desk.rebase(1, 1, 999);
        desk.publish(1, 2, 1, true);
        desk.rebase(1, 2, 999);
        desk.publish(1, 3, 1, true);
        Checks.due("below a millionth", desk.ratio(1, 0, 3), 0);
    }
}
