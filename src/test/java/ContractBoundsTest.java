/** Boundaries of promises 10, 11, 12 and 13: contract, price, were, rises; FACTOR, MOVE, PRICE. */
public final class ContractBoundsTest {
    private static final int NONE = PriceDesk.NONE;
    private static final int MIN = Integer.MIN_VALUE;
    private static final int MAX = Integer.MAX_VALUE;

    /** NOW is 4; contract 0 has base 1 and two terms, contract 1 base 4 and none. */
    private static final Scene TWO = new Scene("month 4;index a 100 200 220;index b 50 40;index c 9;"
        + "contract 1000 = 100 + 400 a + 500 b base 1 beyond 12 share 34;contract 5 = 1000 base 4 all 0 share 100;")
        .then(desk -> {
            desk.publish(0, 3, 230, true);
            desk.publish(0, 4, 240, false);
            desk.deliver(0, 2, 7);
            desk.rebase(1, 1, 80);
        });

    public static void main(String[] args) {
        whats();
        termsByTurns();
        noSuchContract();
        pricedMonths();
        noSuchPrice();
        fromTheBaseOn();
        knownCountsForItsMonth();
        factorTogether();
        factorLimits();
        limitFifty();
        limitNone();
        limitMost();
        partsCut();
        priceRounded();
        priceLimits();
        wereValues();
        wereNoSuch();
        wereAtBoundaries();
        risesLeast();
        risesNone();
        risesAboveTheOneTold();
        risesNoSuch();
        Checks.finish("ContractBoundsTest");
    }

    private static void whats() {
        Checks.says("Of a contract: 0 PRICE, 1 FIXED, 2 base MONTH, 3 LIMIT, 4 PART, 5 1 'beyond', 0 'all', 6 how many terms");
        int[] due = {1000, 100, 1, 12, 34, 1, 2, 400, 0, 500, 1, NONE, NONE};
        int[] dueOther = {5, 1000, 4, 0, 100, 0, 0, NONE, NONE};
        for (int what = 0; what < due.length; what++) {
            int w = what;
            TWO.answers("contract(0, " + what + ")", due[what], desk -> desk.contract(0, w));
            TWO.leavesAll("contract(0, " + what + ")", desk -> desk.contract(0, w));
        }
        for (int what = 0; what < dueOther.length; what++) {
            int w = what;
            TWO.answers("contract(1, " + what + ")", dueOther[what], desk -> desk.contract(1, w));
        }
    }

    private static void termsByTurns() {
        Checks.says("7 and 2 times k its k-th term's WEIGHT, 8 and 2 times k its index.");
        Scene six = new Scene("month 0;index a 1;index b 1;index c 1;index d 1;index e 1;index f 1;"
            + "contract 5 = 979+1 f+2 e+3 d+4 c+5 b+6 a base 0 all 0 share 0;contract 5 = 999 + 1 d base 0 all 0 share 0;");
        for (int k = 0; k < 6; k++) {
            int what = 7 + 2 * k;
            six.answers("WEIGHT of " + k, 1 + k, desk -> desk.contract(0, what));
            six.answers("index of " + k, 5 - k, desk -> desk.contract(0, what + 1));
        }
        six.refuses("what 19, behind the sixth term", NONE, desk -> desk.contract(0, 19));
        six.refuses("what 20", NONE, desk -> desk.contract(0, 20));
        six.answers("one term's WEIGHT", 1, desk -> desk.contract(1, 7));
        six.answers("one term's index", 3, desk -> desk.contract(1, 8));
        six.refuses("behind the one", NONE, desk -> desk.contract(1, 9));
        six.refuses("behind the one", NONE, desk -> desk.contract(1, 10));
    }

    private static void noSuchContract() {
        Checks.says("8 and 2 times k its index. NONE: no such ones.");
        for (int contract : new int[] {-1, 2, 3, 6, MIN, MAX}) {
            for (int what = 0; what <= 8; what++) {
                int w = what;
                TWO.refuses("contract " + contract, NONE, desk -> desk.contract(contract, w));
            }
        }
        for (int what : new int[] {-1, -2, 11, 12, 19, MIN, MIN + 6, MIN + 7, MIN + 8, MAX - 1, MAX}) {
            TWO.refuses("contract what " + what, NONE, desk -> desk.contract(0, what));
        }
        for (int what : new int[] {-1, 7, 8, MIN, MAX}) {
            TWO.refuses("contract of no term, what " + what, NONE, desk -> desk.contract(1, what));
        }
    }

    private static void pricedMonths() {
        Checks.says("Of a contract for a MONTH (base to NOW): 0 FACTOR, 1 MOVE, 2 PRICE.");
        for (int what = 0; what <= 2; what++) {
            int w = what;
            int base = what == 0 ? 1000000 : what == 1 ? 0 : 1000;
            TWO.throwsNoSuchElement("ahead of the base", desk -> desk.price(0, 0, w));
            TWO.answers("at the base", base, desk -> desk.price(0, 1, w));
            TWO.throwsNoSuchElement("ahead of NOW, the base of the other", desk -> desk.price(1, 3, w));
            TWO.answers("base is NOW", what == 2 ? 5 : base, desk -> desk.price(1, 4, w));
            TWO.throwsNoSuchElement("behind NOW", desk -> desk.price(0, 5, w));
            TWO.throwsNoSuchElement("behind NOW", desk -> desk.price(1, 5, w));
            TWO.leavesAll("price", desk -> desk.price(0, 4, w));
            Scene closed = TWO.then(PriceDesk::close);
            closed.answers("as the month has ended", what == 2 ? 5 : base, desk -> desk.price(1, 5, w));
            closed.throwsNoSuchElement("behind the next NOW", desk -> desk.price(1, 6, w));
            closed.then(PriceDesk::undo).throwsNoSuchElement("close undone", desk -> desk.price(1, 5, w));
        }
        TWO.answers("FACTOR for NOW: 100000 + 400 * 1.2 + 500", 1080000, desk -> desk.price(0, 4, 0));
        TWO.answers("MOVE: 34 hundredths of 68000", 23120, desk -> desk.price(0, 4, 1));
        TWO.answers("PRICE: 1023.12", 1023, desk -> desk.price(0, 4, 2));
        Scene last = new Scene("month 35;contract 7 = 1000 base 0 all 0 share 0;contract 8 = 1000 base 35 all 0 share 0;");
        last.answers("at 0", 7, desk -> desk.price(0, 0, 2));
        last.answers("at 35", 7, desk -> desk.price(0, 35, 2));
        last.answers("base 35", 8, desk -> desk.price(1, 35, 2));
        last.throwsNoSuchElement("base 35, at 34", desk -> desk.price(1, 34, 2));
        last.throwsNoSuchElement("at 36", desk -> desk.price(0, 36, 2));
    }

    private static void noSuchPrice() {
        Checks.says("NoSuchElementException: no such ones, another what. ## Promise 12");
        for (int contract : new int[] {-1, 2, 6, MIN, MAX}) {
            TWO.throwsNoSuchElement("price of " + contract, desk -> desk.price(contract, 4, 2));
        }
        for (int month : new int[] {-1, 36, MIN, MAX}) {
            TWO.throwsNoSuchElement("price for " + month, desk -> desk.price(0, month, 2));
        }
        for (int what : new int[] {-1, 3, 4, MIN, MAX}) {
            TWO.throwsNoSuchElement("price what " + what, desk -> desk.price(0, 4, what));
        }
    }

    private static void fromTheBaseOn() {
        Checks.says("FACTOR of a contract for a MONTH, by what is KNOWN (from its base MONTH on)");
        // b was 50, then 40 at the base: 40 is known at 2, 3 and 4
        TWO.answers("FACTOR for 2: 100000 + 400 * 1.1 + 500", 1040000, desk -> desk.price(0, 2, 0));
        TWO.answers("FACTOR for 3: 100000 + 400 * 1.15 + 500", 1060000, desk -> desk.price(0, 3, 0));
        Scene late = new Scene("month 3;index a 100;contract 10 = 0 + 1000 a base 0 all 0 share 100;");
        late.answers("nothing newer is known", 1000000, desk -> desk.price(0, 3, 0));
        Scene first = late.then(desk -> desk.publish(0, 1, 150, false));
        first.answers("0 is ahead of it", 1000000, desk -> desk.price(0, 0, 0));
        first.answers("1 has it", 1500000, desk -> desk.price(0, 1, 0));
        first.answers("2 knows it", 1500000, desk -> desk.price(0, 2, 0));
    }

    private static void knownCountsForItsMonth() {
        Checks.says("(What is KNOWN for a MONTH counts for the MONTH that it is of.)");
        Scene scene = new Scene("month 3;index a 100 110;contract 10 = 0 + 1000 a base 0 all 0 share 100;"
            + "contract 10 = 0 + 1000 a base 1 all 0 share 100;").then(desk -> desk.rebase(0, 1, 55));
        scene.answers("for 2 what is known is of 1", 1100000, desk -> desk.price(0, 2, 0));
        scene.answers("for NOW too", 1100000, desk -> desk.price(0, 3, 0));
        scene.answers("from the rebased month to itself", 1000000, desk -> desk.price(1, 3, 0));
        Scene next = scene.then(desk -> desk.publish(0, 2, 66, false));
        next.answers("for 1", 1100000, desk -> desk.price(0, 1, 0));
        next.answers("for 2 across", 1320000, desk -> desk.price(0, 2, 0));
        next.answers("for 3 by 2, across", 1320000, desk -> desk.price(0, 3, 0));
        next.answers("from the rebased month", 1200000, desk -> desk.price(1, 3, 0));
    }

    private static void factorTogether() {
        Checks.says("FIXED times 1,000,000 and WEIGHTS times RATIOS from the base MONTH, together, by 1000, rounded down.");
        Scene thirds = new Scene("month 1;index a 3 2;index b 3 2;index c 3 2;"
            + "contract 1 = 997 + 1 a + 1 b + 1 c base 0 all 0 share 100;"
            + "contract 1 = 999 + 1 a base 0 all 0 share 100;contract 1 = 999 + 1 a + 0 b base 0 all 0 share 100;");
        thirds.answers("998999.998", 998999, desk -> desk.price(0, 1, 0));
        thirds.answers("999666.666", 999666, desk -> desk.price(1, 1, 0));
        thirds.answers("no WEIGHT, no part", 999666, desk -> desk.price(2, 1, 0));
        Scene near = new Scene("month 2;index a 998 999 998;contract 1 = 999 + 1 a base 0 all 0 share 100;"
            + "contract 1 = 999 + 1 a base 1 all 0 share 100;");
        near.answers("1000001.002", 1000001, desk -> desk.price(0, 1, 0));
        near.answers("999998.998", 999998, desk -> desk.price(1, 2, 0));
        near.answers("1000000", 1000000, desk -> desk.price(0, 2, 0));
        near.answers("a MOVE of 2 down", -2, desk -> desk.price(1, 2, 1));
    }

    private static void factorLimits() {
        Scene least = new Scene(IndexBoundsTest.chain(new int[] {1, 1, 1}, new int[] {999, 999, 999}));
        least.answers("FACTOR 0", 0, desk -> desk.price(0, 3, 0));
        least.answers("MOVE of all", -1000000, desk -> desk.price(0, 3, 1));
        least.answers("PRICE 0 of 1", 0, desk -> desk.price(0, 3, 2));
        least.answers("PRICE 0 of 9999", 0, desk -> desk.price(1, 3, 2));
        Scene most = new Scene(IndexBoundsTest.chain(new int[] {999, 999, 999}, new int[] {1, 1, 1}));
        most.answers("FACTOR at most", 99999999, desk -> desk.price(0, 3, 0));
        most.answers("MOVE at most", 98999999, desk -> desk.price(0, 3, 1));
        most.answers("PRICE at most of 1", 100, desk -> desk.price(0, 3, 2));
        most.answers("PRICE at most of 9999", 999900, desk -> desk.price(1, 3, 2));
    }

    /** For 2 the FACTOR is that of later * old by first * fresh. */
    private static Scene moved(int price, String rule, int first, int old, int fresh, int later) {
        return new Scene("month 2;index a " + first + " " + old + ";contract " + price + " = 0 + 1000 a base 0 " + rule + ";")
            .then(desk -> {
                desk.rebase(0, 1, fresh);
                desk.publish(0, 2, later, true);
            });
    }

    private static void dueMove(int limit, int factor, int dueAll, int dueBeyond, int... four) {
        Scene all = moved(1, "all " + limit + " share 100", four[0], four[1], four[2], four[3]);
        Scene beyond = moved(1, "beyond " + limit + " share 100", four[0], four[1], four[2], four[3]);
        all.answers("FACTOR", factor, desk -> desk.price(0, 2, 0));
        all.answers("MOVE by all " + limit + " of " + factor, dueAll, desk -> desk.price(0, 2, 1));
        beyond.answers("MOVE by beyond " + limit + " of " + factor, dueBeyond, desk -> desk.price(0, 2, 1));
    }

    private static void limitFifty() {
        Checks.says("MOVE: FACTOR less 1,000,000; 0, if it is (below 0: its size) no more than LIMIT times 1000; "
            + "else by 'beyond' that much nearer to 0;");
        dueMove(50, 1050001, 50001, 1, 999, 949, 883, 976);
        dueMove(50, 1050000, 0, 0, 100, 105, 999, 999);
        dueMove(50, 1049999, 0, 0, 999, 960, 885, 967);
        dueMove(50, 950001, 0, 0, 999, 951, 976, 974);
        dueMove(50, 950000, 0, 0, 100, 95, 999, 999);
        dueMove(50, 949999, -50001, -1, 999, 950, 999, 998);
        dueMove(49, 1050000, 50000, 1000, 100, 105, 999, 999);
        dueMove(51, 1050001, 0, 0, 999, 949, 883, 976);
        dueMove(49, 950000, -50000, -1000, 100, 95, 999, 999);
        dueMove(51, 949999, 0, 0, 999, 950, 999, 998);
    }

    private static void limitNone() {
        dueMove(0, 1000000, 0, 0, 100, 100, 50, 50);
        dueMove(0, 1000001, 1, 1, 999, 998, 997, 998);
        dueMove(1, 1000001, 0, 0, 999, 998, 997, 998);
        Scene below = new Scene(IndexBoundsTest.chain(new int[] {356, 53, 53}, new int[] {815, 409, 3}));
        below.answers("FACTOR 999999", 999999, desk -> desk.price(0, 3, 0));
        below.answers("MOVE -1", -1, desk -> desk.price(0, 3, 1));
    }

    private static void limitMost() {
        dueMove(999, 1998999, 0, 0, 64, 171, 953, 713);
        dueMove(999, 1999000, 0, 0, 64, 154, 969, 805);
        dueMove(999, 1999001, 999001, 1, 100, 271, 991, 731);
        dueMove(999, 1001, 0, 0, 100, 1, 999, 100);
        dueMove(999, 1000, 0, 0, 100, 1, 990, 99);
        dueMove(999, 999, -999001, -1, 999, 1, 999, 998);
    }

    private static void duePart(int part, int due, int factor, int... four) {
        for (String rule : new String[] {"all 0 share ", "beyond 0 share "}) {
            Scene scene = moved(1, rule + part, four[0], four[1], four[2], four[3]);
            scene.answers("FACTOR", factor, desk -> desk.price(0, 2, 0));
            scene.answers(part + " hundredths of " + factor + " less 1000000", due, desk -> desk.price(0, 2, 1));
        }
    }

    private static void partsCut() {
        Checks.says("of this PART hundredths (cut towards 0)");
        duePart(1, 0, 1000099, 100, 91, 909, 999);
        duePart(1, 1, 1000100, 100, 103, 999, 970);
        duePart(1, 1, 1000101, 100, 105, 989, 942);
        duePart(1, 1, 1000199, 100, 119, 953, 801);
        duePart(1, 2, 1000200, 100, 115, 998, 868);
        duePart(1, 0, 999901, 100, 93, 918, 987);
        duePart(1, -1, 999900, 100, 163, 908, 557);
        duePart(1, -1, 999899, 100, 170, 998, 587);
        duePart(1, -1, 999801, 100, 163, 957, 587);
        duePart(1, -2, 999800, 100, 143, 954, 667);
        duePart(0, 0, 1000200, 100, 115, 998, 868);
        duePart(0, 0, 999800, 100, 143, 954, 667);
        duePart(99, 198, 1000200, 100, 115, 998, 868);
        duePart(99, 197, 1000199, 100, 119, 953, 801);
        duePart(99, -197, 999801, 100, 163, 957, 587);
        duePart(100, 200, 1000200, 100, 115, 998, 868);
        duePart(100, -200, 999800, 100, 143, 954, 667);
        // what is beyond is shared, not all: 34 hundredths of 1 and of 1000
        Scene one = moved(1, "beyond 50 share 34", 999, 949, 883, 976);
        one.answers("34 hundredths of 1", 0, desk -> desk.price(0, 2, 1));
        Scene all = moved(1, "all 50 share 34", 999, 949, 883, 976);
        all.answers("34 hundredths of 50001", 17000, desk -> desk.price(0, 2, 1));
    }

    private static void duePrice(int price, int due, int... four) {
        Scene scene = moved(price, "all 0 share 100", four[0], four[1], four[2], four[3]);
        scene.answers("PRICE of " + price, due, desk -> desk.price(0, 2, 2));
    }

    private static void priceRounded() {
        Checks.says("PRICE for a MONTH: PRICE told times 1,000,000 and MOVE, and 500,000, by 1,000,000, rounded down.");
        duePrice(1, 1, 999, 923, 587, 953);
        duePrice(1, 2, 100, 150, 999, 999);
        duePrice(1, 1, 100, 50, 999, 999);
        duePrice(1, 0, 999, 500, 999, 998);
        // 1.499999 and 1.5 and 0.5 and 0.499999 times 3: 4.499997, 4.5, 1.5, 1.499997
        duePrice(3, 4, 999, 923, 587, 953);
        duePrice(3, 5, 100, 150, 999, 999);
        duePrice(3, 2, 100, 50, 999, 999);
        duePrice(3, 1, 999, 500, 999, 998);
        // a move that is too small for a unit: 9999 times 1.000001 is 9999.009999
        duePrice(9999, 9999, 999, 998, 997, 998);
        duePrice(9999, 10001, 100, 115, 998, 868);
    }

    private static void priceLimits() {
        Scene none = moved(9999, "all 0 share 0", 1, 999, 1, 999);
        none.answers("no PART: the one told", 9999, desk -> desk.price(0, 2, 2));
        Scene most = moved(9999, "beyond 999 share 100", 1, 999, 1, 999);
        most.answers("MOVE", 98000999, desk -> desk.price(0, 2, 1));
        Scene least = moved(9999, "beyond 999 share 100", 999, 1, 999, 1);
        least.answers("FACTOR", 1, desk -> desk.price(0, 2, 0));
        least.answers("MOVE", -999, desk -> desk.price(0, 2, 1));
        least.answers("PRICE 9989.01", 9989, desk -> desk.price(0, 2, 2));
        least.leavesAll("price", desk -> desk.price(0, 2, 2));
    }

    /** NOW is 2 without a value; PRICE told 1000, all of it by index 0, which was 100. */
    private static final Scene WERE = new Scene("month 2;index a 100 110;index b 50;"
        + "contract 1000 = 0 + 1000 a base 0 all 0 share 100;contract 8 = 1000 base 2 all 0 share 100;")
        .then(desk -> desk.deliver(0, 2, 5));

    private static void wereValues() {
        Checks.says("PRICE of a contract for NOW, were v (1 to 999) the VALUE of an index for NOW.");
        int[][] due = {{1, 10}, {2, 20}, {100, 1000}, {110, 1100}, {998, 9980}, {999, 9990}};
        for (int[] pair : due) {
            WERE.answers("were " + pair[0], pair[1], desk -> desk.were(0, 0, pair[0]));
            WERE.leavesAll("were " + pair[0], desk -> desk.were(0, 0, pair[0]));
        }
        for (int v : new int[] {0, -1, 1000, 1001, MIN, MAX}) {
            WERE.refuses("were " + v, NONE, desk -> desk.were(0, 0, v));
            WERE.refuses("were " + v + " of one that is no term", NONE, desk -> desk.were(1, 1, v));
        }
    }

    private static void wereNoSuch() {
        Checks.says("the VALUE of an index for NOW. NONE: no such ones.");
        WERE.answers("the last contract and index", 8, desk -> desk.were(1, 1, 5));
        WERE.answers("the last index, no term", 1100, desk -> desk.were(0, 1, 5));
        for (int contract : new int[] {-1, 2, 6, MIN, MAX}) {
            WERE.refuses("were of contract " + contract, NONE, desk -> desk.were(contract, 0, 5));
        }
        for (int index : new int[] {-1, 2, 6, MIN, MAX}) {
            WERE.refuses("were of index " + index, NONE, desk -> desk.were(0, index, 5));
        }
    }

    private static void wereAtBoundaries() {
        Scene provisional = WERE.then(desk -> desk.publish(0, 2, 300, false));
        Scene published = WERE.then(desk -> desk.publish(0, 2, 300, true));
        for (Scene scene : new Scene[] {provisional, published}) {
            scene.answers("were another", 1200, desk -> desk.were(0, 0, 120));
            scene.answers("were the same", 3000, desk -> desk.were(0, 0, 300));
            scene.leavesAll("were", desk -> desk.were(0, 0, 120));
        }
        Scene rebased = published.then(desk -> desk.rebase(0, 2, 30));
        rebased.answers("rebased at NOW: by the base ahead", 1200, desk -> desk.were(0, 0, 120));
        Scene next = rebased.then(PriceDesk::close);
        next.answers("by the new base: 12 * 300 by 100 * 30", 1200, desk -> desk.were(0, 0, 12));
        next.leavesAll("were", desk -> desk.were(0, 0, 12));
        Scene last = new Scene("month 35;index a 100;contract 1000 = 0 + 1000 a base 0 all 0 share 100;");
        last.answers("NOW 35", 2000, desk -> desk.were(0, 0, 200));
        last.leavesAll("were at 35", desk -> desk.were(0, 0, 200));
        // NOW is the base MONTH: v is the first VALUE and the later one
        Scene base = new Scene("month 1;index a 100 110;contract 10 = 0 + 1000 a base 1 all 0 share 100;");
        base.answers("NOW is the base", 10, desk -> desk.were(0, 0, 999));
        base.leavesAll("were at the base", desk -> desk.were(0, 0, 999));
    }

    private static Scene rising(int price, int first, String rule) {
        return new Scene("month 1;index a " + first + ";index b 10 20;contract " + price + " = 0 + 1000 a base 0 " + rule
            + ";contract 10 = 0 + 500 a + 500 b base 0 all 0 share 100;");
    }

    private static void risesLeast() {
        Checks.says("The least VALUE (1 to 999) of an index for NOW by which a contract's PRICE for NOW would be above the one told");
        rising(9999, 100, "all 0 share 100").answers("101", 101, desk -> desk.rises(0, 0));
        rising(9999, 1, "all 0 share 100").answers("from 2 on", 2, desk -> desk.rises(0, 0));
        rising(9999, 997, "all 0 share 100").answers("from 998 on", 998, desk -> desk.rises(0, 0));
        rising(9999, 998, "all 0 share 100").answers("999 alone", 999, desk -> desk.rises(0, 0));
        rising(9999, 998, "all 1 share 100").answers("999 alone, 1002 beyond 1000", 999, desk -> desk.rises(0, 0));
        rising(10, 10, "all 0 share 100").answers("b lifts it already, 1 does", 1, desk -> desk.rises(1, 0));
        rising(10, 10, "all 0 share 100").answers("b a tenth more, both a twentieth", 11, desk -> desk.rises(1, 1));
        Scene above = new Scene("month 1;index a 10 99;index b 10;contract 10 = 0 + 1000 a base 0 all 0 share 100;");
        above.answers("above already, whatever b is: 1 is the least", 1, desk -> desk.rises(0, 1));
        Scene scene = rising(9999, 100, "all 0 share 100").then(desk -> desk.publish(0, 1, 999, true));
        scene.answers("whatever is published", 101, desk -> desk.rises(0, 0));
        scene.leavesAll("rises", desk -> desk.rises(0, 0));
        Scene none = rising(9999, 100, "all 0 share 100");
        none.leavesAll("rises", desk -> desk.rises(0, 0));
        Scene rebased = scene.then(desk -> {
            desk.rebase(0, 1, 50);
            desk.close();
        });
        // v * 999 by 100 * 50 above 1: from 6 on
        rebased.answers("by the new base", 6, desk -> desk.rises(0, 0));
        rebased.leavesAll("rises", desk -> desk.rises(0, 0));
    }

    private static void risesNone() {
        Checks.says("-2: none.");
        rising(9999, 999, "all 0 share 100").refuses("999 already", -2, desk -> desk.rises(0, 0));
        rising(9999, 998, "all 2 share 100").refuses("not beyond 2000", -2, desk -> desk.rises(0, 0));
        rising(9999, 998, "beyond 1 share 100").refuses("2 beyond 1000 are too few", -2, desk -> desk.rises(0, 0));
        rising(9999, 100, "all 0 share 0").refuses("no PART", -2, desk -> desk.rises(0, 0));
        rising(9999, 100, "all 0 share 100").refuses("no term", -2, desk -> desk.rises(0, 1));
        Scene fixed = new Scene("month 1;index a 1;contract 5 = 1000 + 0 a base 0 all 0 share 100;");
        fixed.refuses("no WEIGHT", -2, desk -> desk.rises(0, 0));
        Scene base = new Scene("month 0;index a 1;contract 5 = 0 + 1000 a base 0 all 0 share 100;");
        base.refuses("NOW is the base", -2, desk -> desk.rises(0, 0));
    }

    private static void risesAboveTheOneTold() {
        // 10 times 1.04 is 10, 10 times 1.05 is 11
        Scene scene = rising(10, 100, "all 0 share 100");
        scene.answers("10.4", 10, desk -> desk.were(0, 0, 104));
        scene.answers("10.5", 11, desk -> desk.were(0, 0, 105));
        scene.answers("the first above, not like", 105, desk -> desk.rises(0, 0));
        rising(1, 2, "all 0 share 100").answers("1.5", 3, desk -> desk.rises(0, 0));
        rising(1, 3, "all 0 share 100").answers("1.333 is 1, 1.666 is 2", 5, desk -> desk.rises(0, 0));
        rising(1, 666, "all 0 share 100").answers("999 by 666", 999, desk -> desk.rises(0, 0));
        rising(1, 667, "all 0 share 100").answers("999 by 667", -2, desk -> desk.rises(0, 0));
        rising(1000, 100, "all 50 share 100").answers("LIMIT 50", 106, desk -> desk.rises(0, 0));
        rising(1000, 100, "all 49 share 100").answers("LIMIT 49", 105, desk -> desk.rises(0, 0));
        rising(1000, 100, "beyond 50 share 100").answers("beyond 50", 106, desk -> desk.rises(0, 0));
        rising(1000, 100, "beyond 50 share 5").answers("5 hundredths of 10000 are half a unit", 106, desk -> desk.rises(0, 0));
        rising(1000, 100, "beyond 50 share 4").answers("4 hundredths of 20000", 107, desk -> desk.rises(0, 0));
    }

    private static void risesNoSuch() {
        Checks.says("-2: none. NONE: no such ones.");
        for (int contract : new int[] {-1, 2, 6, MIN, MAX}) {
            WERE.refuses("rises of contract " + contract, NONE, desk -> desk.rises(contract, 0));
        }
        for (int index : new int[] {-1, 2, 6, MIN, MAX}) {
            WERE.refuses("rises of index " + index, NONE, desk -> desk.rises(0, index));
        }
        WERE.answers("the last of both", -2, desk -> desk.rises(1, 1));
    }
}
