/** Promise 21: undo. */
public final class UndoTest {
    private static final int NONE = PriceDesk.NONE;

    public static void main(String[] args) {
        undoEach();
        undoOfAClose();
        eightAreKept();
        whatWasNotDone();
        Checks.finish("UndoTest");
    }

    private static void undoEach() {
        PriceDesk desk = Checks.desk("month 2;index a 100 100;contract 10 = 0 + 1000 a base 0 all 0 share 100;");
        desk.publish(0, 2, 50, false);
        desk.publish(0, 2, 60, false);
        desk.publish(0, 2, 70, true);
        desk.rebase(0, 2, 7);
        desk.deliver(0, 2, 3);
        Checks.due("five", desk.now(5), 5);
        Checks.due("deliver undone", desk.undo(), 4);
        Checks.due("no delivery", desk.now(3), 0);
        Checks.due("no delivery 0", desk.delivery(0, 0), NONE);
        Checks.due("nothing billed", desk.statement(2, 0), 0);
        Checks.due("rebase undone", desk.undo(), 3);
        Checks.due("no rebasing", desk.rebased(0, 0, 0), NONE);
        Checks.due("final", desk.value(0, 2, 1), 2);
        Checks.due("final one undone", desk.undo(), 2);
        Checks.due("provisional", desk.value(0, 2, 1), 1);
        Checks.due("60", desk.value(0, 2, 0), 60);
        Checks.due("second undone", desk.undo(), 1);
        Checks.due("50", desk.value(0, 2, 0), 50);
        Checks.due("first undone", desk.undo(), 0);
        Checks.due("none", desk.value(0, 2, 1), 0);
        Checks.due("no value", desk.value(0, 2, 0), NONE);
        Checks.due("known", desk.value(0, 2, 3), 1);
        Checks.due("no more", desk.undo(), NONE);
        Checks.due("a first one again", desk.publish(0, 2, 80, false), 0);
    }

    private static void undoOfAClose() {
        PriceDesk desk = Checks.desk("month 1;index a 100;contract 10 = 0 + 1000 a base 0 all 0 share 100;"
            + "contract 3 = 1000 base 0 all 0 share 0;");
        desk.deliver(1, 1, 2);
        desk.deliver(0, 1, 3);
        Checks.due("one settled", desk.close(), 1);
        desk.publish(0, 1, 200, true);
        Checks.due("the other settled", desk.close(), 1);
        Checks.due("trued", desk.statement(2, 1), 30);
        Checks.due("undo the second close", desk.undo(), 4);
        Checks.due("NOW", desk.now(0), 2);
        Checks.due("settled", desk.now(4), 1);
        Checks.due("the first is", desk.delivery(0, 7), 1);
        Checks.due("the second is not", desk.delivery(1, 7), NONE);
        Checks.due("not trued", desk.amount(1, 1), 0);
        Checks.due("not in the statement", desk.statement(2, 1), 0);
        desk.undo();
        Checks.due("waits again", desk.delivery(1, 8), 1);
        Checks.due("undo the first close", desk.undo(), 2);
        Checks.due("NOW", desk.now(0), 1);
        Checks.due("none settled", desk.now(4), 0);
        Checks.due("the first is not", desk.delivery(0, 6), 0);
        Checks.due("closed anew", desk.close(), 1);
        Checks.due("it can be undone", desk.now(5), 3);
    }

    private static void eightAreKept() {
        PriceDesk desk = Checks.desk("month 0;index a 1;");
        for (int done = 1; done <= 20; done++) {
            desk.close();
            Checks.due("kept after " + done, desk.now(5), Math.min(done, 8));
        }
        for (int left = 7; left >= 0; left--) {
            Checks.due("undo", desk.undo(), left);
        }
        Checks.due("NOW", desk.now(0), 12);
        Checks.due("none", desk.undo(), NONE);
        Checks.due("NOW stays", desk.now(0), 12);
        desk.publish(0, 12, 5, false);
        desk.close();
        Checks.due("two", desk.now(5), 2);
        Checks.due("one", desk.undo(), 1);
        Checks.due("none left", desk.undo(), 0);
        Checks.due("the value is gone", desk.value(0, 12, 1), 0);
    }

    private static void whatWasNotDone() {
        PriceDesk desk = Checks.desk("month 35;index a 1;contract 3 = 1000 base 0 all 0 share 0;");
        desk.publish(0, 0, 5, true);
        desk.publish(0, 36, 5, true);
        desk.rebase(0, 5, 5);
        desk.deliver(0, 36, 1);
        desk.close();
        desk.were(0, 0, 5);
        desk.rises(0, 0);
        desk.feed(1, 2, 3, 4, 5);
        desk.end(3);
        Checks.due("nothing was done", desk.now(5), 0);
        Checks.due("none", desk.undo(), NONE);
        Checks.due("the tape stays", desk.now(6), 3);
        desk.publish(0, 1, 5, true);
        desk.text();
        Checks.due("a fault", desk.fault(), 1);
        Checks.due("it can still be undone", desk.undo(), 0);
    }
}
