/** Promises 1, 2, 3 and 6: a new object, feed, end, now. */
public final class TapeTest {
    public static void main(String[] args) {
        aNewObject();
        feeding();
        ending();
        bytesHighestFirst();
        nowOfEach();
        Checks.finish("TapeTest");
    }

    private static void aNewObject() {
        PriceDesk desk = new PriceDesk();
        for (int what = 0; what <= 6; what++) {
            Checks.due("new now(" + what + ")", desk.now(what), 0);
        }
        Checks.due("new now(7)", desk.now(7), PriceDesk.NONE);
        Checks.due("new now(-1)", desk.now(-1), PriceDesk.NONE);
        Checks.due("new fault()", desk.fault(), 0);
        Checks.due("new value", desk.value(0, 0, 1), PriceDesk.NONE);
        Checks.due("new contract", desk.contract(0, 6), PriceDesk.NONE);
        Checks.due("new delivery", desk.delivery(0, 0), PriceDesk.NONE);
        Checks.due("new undo", desk.undo(), PriceDesk.NONE);
        Checks.due("new statement", desk.statement(35, 3), 0);
        Checks.due("NONE", PriceDesk.NONE, -1);
    }

    private static void feeding() {
        PriceDesk desk = new PriceDesk();
        for (int fed = 1; fed <= 37; fed++) {
            Checks.due("feed " + fed, desk.feed(0, -1, fed, Integer.MIN_VALUE, Integer.MAX_VALUE), 20 * fed);
        }
        Checks.due("feed beyond 740", desk.feed(1, 2, 3, 4, 5), PriceDesk.NONE);
        Checks.due("none came", desk.now(6), 740);
        Checks.due("end(721)", desk.end(721), true);
        Checks.due("feed to 741", desk.feed(1, 2, 3, 4, 5), PriceDesk.NONE);
        Checks.due("none came", desk.now(6), 721);
        Checks.due("end(720)", desk.end(720), true);
        Checks.due("feed to 740", desk.feed(1, 2, 3, 4, 5), 740);
    }

    private static void ending() {
        PriceDesk desk = new PriceDesk();
        Checks.due("end(0) of an empty tape", desk.end(0), true);
        Checks.due("end(1) of an empty tape", desk.end(1), false);
        desk.feed(1, 2, 3, 4, 5);
        Checks.due("end(21)", desk.end(21), false);
        Checks.due("end(-1)", desk.end(-1), false);
        Checks.due("end(MIN)", desk.end(Integer.MIN_VALUE), false);
        Checks.due("end(MAX)", desk.end(Integer.MAX_VALUE), false);
        Checks.due("all stays", desk.now(6), 20);
        Checks.due("end(20)", desk.end(20), true);
        Checks.due("end(7)", desk.end(7), true);
        Checks.due("end(8)", desk.end(8), false);
        Checks.due("bytes", desk.now(6), 7);
    }

    private static void bytesHighestFirst() {
        PriceDesk desk = new PriceDesk();
        // 'mont' 'h 7;' told by two numbers
        desk.feed(0x6d6f6e74, 0x6820373b, 0, 0, 0);
        desk.end(8);
        Checks.due("month 7;", desk.text(), 1);
        Checks.due("now 7", desk.now(0), 7);
        Checks.due("tape is empty", desk.now(6), 0);
        // each of the five numbers has its place: 'mont' 'h   ' '    ' '   3' '5 ; '
        desk.feed(0x6d6f6e74, 0x68202020, 0x20202020, 0x20202033, 0x35203b20);
        Checks.due("month 35 by five numbers", desk.text(), 1);
        Checks.due("now 35", desk.now(0), 35);
        Checks.tape(desk, "mon");
        Checks.tape(desk, "th 2;");
        Checks.due("bytes come behind", desk.text(), 1);
        Checks.due("now 2", desk.now(0), 2);
    }

    private static void nowOfEach() {
        PriceDesk desk = Checks.desk("month 1;index a 1 2;index b 5;contract 8 = 1000 base 0 all 0 share 0;");
        Checks.due("now(0)", desk.now(0), 1);
        Checks.due("now(1)", desk.now(1), 2);
        Checks.due("now(2)", desk.now(2), 1);
        desk.deliver(0, 1, 1);
        desk.deliver(0, 0, 1);
        Checks.due("now(3)", desk.now(3), 2);
        Checks.due("now(4)", desk.now(4), 0);
        Checks.due("now(5)", desk.now(5), 2);
        desk.close();
        Checks.due("now(4) settled", desk.now(4), 2);
        Checks.due("now(5) three", desk.now(5), 3);
        desk.feed(0, 0, 0, 0, 0);
        Checks.due("now(6)", desk.now(6), 20);
    }
}
