/** Boundaries of promises 14, 15, 16, 19 and 20: delivery, amount, statement, deliver, close. */
public final class DeliveryBoundsTest {
    private static final int NONE = PriceDesk.NONE;
    private static final int MIN = Integer.MIN_VALUE;
    private static final int MAX = Integer.MAX_VALUE;

    /** NOW is 3, the base 1; prices of 1, 2 and 3 are 100, 101 and 102. */
    private static final Scene OPEN = new Scene("month 3;index a 50 100 101 102;"
        + "contract 100 = 0 + 1000 a base 1 all 0 share 100;contract 7 = 1000 base 3 all 0 share 0;");

    /** One delivery settled as 3 ended, one that waits, NOW is 4. */
    private static final Scene CLOSED = OPEN.then(desk -> {
        desk.deliver(0, 3, 5);
        desk.close();
        desk.publish(0, 4, 110, false);
        desk.deliver(0, 4, 2);
    });

    /** 30 deliveries, by contracts 0 and 1 in turn. */
    private static final Scene FULL = OPEN.then(desk -> {
        for (int k = 0; k < 30; k++) {
            desk.deliver(k % 2, 3, 1 + k);
        }
    });

    public static void main(String[] args) {
        dueMonths();
        quantities();
        deliveredContracts();
        thirty();
        firstRefusalOfDeliver();
        lateOrNot();
        theLesserPrice();
        likePrices();
        billedByWhatIsKnownThen();
        rows();
        noSuchDelivery();
        waitsFor();
        weightsAboveNone();
        settledAsAMonthEnds();
        finalValuesOfThatMonth();
        trued();
        theMonthStays();
        amounts();
        noSuchAmount();
        greatAmounts();
        statementsOfMonths();
        statementsUpTo();
        noSuchStatement();
        howManyWereSettled();
        theLastMonth();
        Checks.finish("DeliveryBoundsTest");
    }

    private static void dueMonths() {
        Checks.says("A DELIVERY at the MONTH NOW, DUE at a MONTH no later (base or later)");
        Checks.says("NONE: no such ones (DUE: base to NOW)");
        OPEN.refuses("ahead of the base", NONE, desk -> desk.deliver(0, 0, 5));
        OPEN.takesBack("at the base", 0, desk -> desk.deliver(0, 1, 5));
        OPEN.takesBack("behind the base", 0, desk -> desk.deliver(0, 2, 5));
        OPEN.takesBack("at NOW", 0, desk -> desk.deliver(0, 3, 5));
        OPEN.refuses("behind NOW", NONE, desk -> desk.deliver(0, 4, 5));
        OPEN.refuses("base is NOW, ahead of it", NONE, desk -> desk.deliver(1, 2, 5));
        OPEN.takesBack("base is NOW", 0, desk -> desk.deliver(1, 3, 5));
        OPEN.refuses("base is NOW, behind it", NONE, desk -> desk.deliver(1, 4, 5));
        for (int due : new int[] {-1, 35, 36, MIN, MAX}) {
            OPEN.refuses("DUE " + due, NONE, desk -> desk.deliver(0, due, 5));
        }
        Scene next = OPEN.then(PriceDesk::close);
        next.takesBack("at the next NOW", 0, desk -> desk.deliver(0, 4, 5));
        next.refuses("behind the next NOW", NONE, desk -> desk.deliver(0, 5, 5));
        Scene first = new Scene("month 0;contract 7 = 1000 base 0 all 0 share 0;");
        first.takesBack("NOW 0", 0, desk -> desk.deliver(0, 0, 5));
        first.refuses("NOW 0, DUE 1", NONE, desk -> desk.deliver(0, 1, 5));
        first.refuses("NOW 0, DUE -1", NONE, desk -> desk.deliver(0, -1, 5));
        Scene last = new Scene("month 35;contract 7 = 1000 base 0 all 0 share 0;");
        last.takesBack("NOW 35", 0, desk -> desk.deliver(0, 35, 5));
        last.refuses("NOW 35, DUE 36", NONE, desk -> desk.deliver(0, 36, 5));
    }

    private static void quantities() {
        Checks.says("A DELIVERY of a QUANTITY (1 to 999): its number.");
        for (int quantity : new int[] {1, 2, 998, 999}) {
            OPEN.takesBack("QUANTITY " + quantity, 0, desk -> desk.deliver(0, 3, quantity));
            OPEN.answers("BILLED", 102L * quantity, desk -> {
                desk.deliver(0, 3, quantity);
                return desk.amount(0, 0);
            });
        }
        for (int quantity : new int[] {0, -1, 1000, 1001, MIN, MAX}) {
            OPEN.refuses("QUANTITY " + quantity, NONE, desk -> desk.deliver(0, 3, quantity));
        }
    }

    private static void deliveredContracts() {
        for (int contract : new int[] {-1, 2, 6, MIN, MAX}) {
            OPEN.refuses("contract " + contract, NONE, desk -> desk.deliver(contract, 3, 5));
        }
        StringBuilder six = new StringBuilder("month 0;");
        for (int k = 0; k < 6; k++) {
            six.append("contract ").append(10 + k).append(" = 1000 base 0 all 0 share 0;");
        }
        Scene scene = new Scene(six.toString());
        scene.takesBack("contract 5", 0, desk -> desk.deliver(5, 0, 1));
        scene.answers("its price", 15, desk -> {
            desk.deliver(5, 0, 1);
            return desk.amount(0, 0);
        });
        scene.refuses("contract 6", NONE, desk -> desk.deliver(6, 0, 1));
    }

    private static void thirty() {
        Checks.says("-2: 30 are there.");
        PriceDesk desk = Checks.desk("month 3;contract 7 = 1000 base 0 all 0 share 0;");
        for (int k = 0; k < 30; k++) {
            Checks.due("number", desk.deliver(0, 3, 1 + k), k);
            Checks.due("how many", desk.now(3), k + 1);
        }
        Checks.due("a 31st", desk.deliver(0, 3, 5), -2);
        Checks.due("30", desk.now(3), 30);
        FULL.refuses("a 31st", -2, each -> each.deliver(0, 3, 5));
        FULL.refuses("a late 31st", -2, each -> each.deliver(0, 1, 5));
        FULL.refuses("no delivery 30", NONE, each -> each.delivery(30, 0));
        FULL.answers("the last", 30, each -> each.delivery(29, 3));
        FULL.then(PriceDesk::undo).answers("the 30th anew", 29, each -> each.deliver(0, 3, 5));
        Scene closed = FULL.then(PriceDesk::close);
        closed.refuses("settled ones are there too", -2, each -> each.deliver(0, 3, 5));
        closed.answers("all 30 settled", 30, each -> each.now(4));
        Scene anew = FULL.then(each -> Checks.tell(each, "month 3;contract 7 = 1000 base 0 all 0 share 0;"));
        anew.answers("a new text has room", 0, each -> each.deliver(0, 3, 5));
    }

    private static void firstRefusalOfDeliver() {
        FULL.refuses("30 are there, no such contract", NONE, desk -> desk.deliver(2, 3, 5));
        FULL.refuses("30 are there, no such month", NONE, desk -> desk.deliver(0, 4, 5));
        FULL.refuses("30 are there, no such quantity", NONE, desk -> desk.deliver(0, 3, 0));
        FULL.refuses("30 are there, no such quantity", NONE, desk -> desk.deliver(0, 3, 1000));
    }

    private static void dueRow(Scene scene, int delivery, int... due) {
        for (int what = 0; what < due.length; what++) {
            int w = what;
            scene.answers("delivery(" + delivery + ", " + w + ")", due[w], desk -> desk.delivery(delivery, w));
        }
    }

    private static void lateOrNot() {
        Checks.says("if it is late (DUE ahead of NOW), it is FROZEN");
        Checks.says("else at NOW.");
        // 90 at NOW is less, then 110 is more: DUE a month ahead, and DUE at NOW
        for (int value : new int[] {90, 110}) {
            Scene scene = new Scene("month 2;index a 100 100 " + value + ";contract 100 = 0 + 1000 a base 0 all 0 share 100;")
                .then(desk -> {
                    desk.deliver(0, 1, 3);
                    desk.deliver(0, 2, 3);
                });
            dueRow(scene, 0, 0, 1, 2, 3, value == 90 ? 2 : 1, value == 90 ? 90 : 100);
            dueRow(scene, 1, 0, 2, 2, 3, 2, value);
        }
    }

    private static void theLesserPrice() {
        Checks.says("at the MONTH of both whose PRICE is less (of like ones DUE)");
        Scene scene = new Scene("month 3;index a 100 99 101 100;contract 100 = 0 + 1000 a base 0 all 0 share 100;")
            .then(desk -> {
                desk.deliver(0, 0, 1);
                desk.deliver(0, 1, 1);
                desk.deliver(0, 2, 1);
                desk.deliver(0, 3, 1);
            });
        dueRow(scene, 0, 0, 0, 3, 1, 0, 100);
        dueRow(scene, 1, 0, 1, 3, 1, 1, 99);
        dueRow(scene, 2, 0, 2, 3, 1, 3, 100);
        dueRow(scene, 3, 0, 3, 3, 1, 3, 100);
    }

    private static void likePrices() {
        // FACTORS differ, PRICES are like: DUE, whichever factor is less
        Scene scene = new Scene("month 2;index a 100 110 105;contract 1 = 0 + 1000 a base 0 all 0 share 100;")
            .then(desk -> {
                desk.deliver(0, 1, 1);
                desk.deliver(0, 0, 1);
            });
        dueRow(scene, 0, 0, 1, 2, 1, 1, 1);
        dueRow(scene, 1, 0, 0, 2, 1, 0, 1);
        // no value of DUE or NOW: both know the same
        Scene same = new Scene("month 5;index a 100;contract 50 = 0 + 1000 a base 0 all 0 share 100;")
            .then(desk -> desk.deliver(0, 4, 1));
        dueRow(same, 0, 0, 4, 5, 1, 4, 50, 0, NONE, 1);
    }

    private static void billedByWhatIsKnownThen() {
        Checks.says("It is BILLED: QUANTITY times PRICE for that MONTH, by what is KNOWN then.");
        Scene scene = new Scene("month 2;index a 100;contract 100 = 0 + 1000 a base 0 all 0 share 100;")
            .then(desk -> {
                desk.publish(0, 1, 110, false);
                desk.deliver(0, 2, 3);
                desk.deliver(0, 0, 3);
                desk.publish(0, 1, 120, true);
                desk.publish(0, 2, 90, true);
            });
        dueRow(scene, 0, 0, 2, 2, 3, 2, 110);
        dueRow(scene, 1, 0, 0, 2, 3, 0, 100);
        scene.answers("BILLED", 330, desk -> desk.amount(0, 0));
        scene.answers("BILLED", 300, desk -> desk.amount(1, 0));
        scene.answers("the price that is known now", 90, desk -> desk.price(0, 2, 2));
    }

    private static void rows() {
        Checks.says("0 contract, 1 DUE, 2 the MONTH in which it was, 3 QUANTITY, 4 the MONTH of its PRICE, 5 that PRICE as it was "
            + "BILLED, 6 1 SETTLED, 7 as which MONTH ended (NONE), 8 indexes it still waits for (bits; SETTLED: 0).");
        dueRow(CLOSED, 0, 0, 3, 3, 5, 3, 102, 1, 3, 0);
        dueRow(CLOSED, 1, 0, 4, 4, 2, 4, 110, 0, NONE, 1);
        dueRow(FULL, 29, 1, 3, 3, 30, 3, 7, 0, NONE, 0);
        for (int what = 0; what <= 8; what++) {
            int w = what;
            CLOSED.leavesAll("delivery(1, " + w + ")", desk -> desk.delivery(1, w));
        }
    }

    private static void noSuchDelivery() {
        Checks.says("NONE: no such one, another what.");
        for (int what = 0; what <= 8; what++) {
            int w = what;
            for (int delivery : new int[] {-1, 2, 29, 30, MIN, MAX}) {
                CLOSED.refuses("delivery " + delivery, NONE, desk -> desk.delivery(delivery, w));
            }
            OPEN.refuses("delivery 0 of none", NONE, desk -> desk.delivery(0, w));
            FULL.refuses("delivery 30 of 30", NONE, desk -> desk.delivery(30, w));
        }
        for (int what : new int[] {-1, 9, 10, MIN, MAX}) {
            CLOSED.refuses("delivery what " + what, NONE, desk -> desk.delivery(0, what));
        }
    }

    private static void waitsFor() {
        String head = "month 1;index a 1;index b 1;index c 1;index d 1;index e 1;index f 1;contract 5 = ";
        Scene all = new Scene(head + "0 + 100 f + 200 e + 200 d + 200 c + 200 b + 100 a base 0 all 0 share 0;")
            .then(desk -> desk.deliver(0, 1, 1));
        all.answers("all six", 63, desk -> desk.delivery(0, 8));
        for (int index = 0; index < 6; index++) {
            int i = index;
            Scene last = new Scene(head + "0 + 1000 " + (char) ('a' + i) + " base 0 all 0 share 0;")
                .then(desk -> desk.deliver(0, 1, 1));
            last.answers("index " + i, 1 << i, desk -> desk.delivery(0, 8));
            Scene published = all.then(desk -> desk.publish(i, 1, 1, true));
            published.answers("all but " + i, 63 - (1 << i), desk -> desk.delivery(0, 8));
            Scene provisional = all.then(desk -> desk.publish(i, 1, 1, false));
            provisional.answers("a provisional one is waited on", 63, desk -> desk.delivery(0, 8));
            published.then(PriceDesk::undo).answers("all again", 63, desk -> desk.delivery(0, 8));
        }
    }

    private static void weightsAboveNone() {
        Checks.says("It is SETTLED, if each index of the contract (of WEIGHT above 0) has a FINAL VALUE of that MONTH");
        for (int weight = 0; weight <= 1; weight++) {
            Scene scene = new Scene("month 1;index a 1;contract 5 = " + (1000 - weight) + " + " + weight
                + " a base 0 all 0 share 0;").then(desk -> desk.deliver(0, 1, 1));
            scene.answers("waits by WEIGHT " + weight, weight, desk -> desk.delivery(0, 8));
            scene.takesBack("settled by WEIGHT " + weight, 1 - weight, PriceDesk::close);
        }
        Scene each = new Scene("month 1;index a 1;index b 1;contract 5 = 0 + 1 a + 999 b base 0 all 0 share 0;")
            .then(desk -> desk.deliver(0, 1, 1));
        each.answers("neither", 0, PriceDesk::close);
        each.then(desk -> desk.publish(0, 1, 1, true)).answers("one of both", 0, PriceDesk::close);
        each.then(desk -> desk.publish(1, 1, 1, true)).answers("the other", 0, PriceDesk::close);
        each.then(desk -> {
            desk.publish(0, 1, 1, true);
            desk.publish(1, 1, 1, true);
        }).takesBack("each", 1, PriceDesk::close);
    }

    private static void settledAsAMonthEnds() {
        Checks.says("as a MONTH ends: TRUED is QUANTITY times PRICE for that MONTH, by what is KNOWN then, less what was BILLED.");
        Scene scene = CLOSED.then(desk -> desk.publish(0, 4, 120, true));
        scene.answers("not as it is published", 0, desk -> desk.delivery(1, 6));
        scene.answers("not waited on", 0, desk -> desk.delivery(1, 8));
        scene.answers("not trued yet", 0, desk -> desk.amount(1, 1));
        scene.takesBack("as the month ends", 1, PriceDesk::close);
        Scene ended = scene.then(PriceDesk::close);
        dueRow(ended, 1, 0, 4, 4, 2, 4, 110, 1, 4, 0);
        ended.answers("trued", 20, desk -> desk.amount(1, 1));
        ended.answers("none once more", 0, PriceDesk::close);
        dueRow(ended.then(PriceDesk::close), 1, 0, 4, 4, 2, 4, 110, 1, 4, 0);
        // settled months later
        Scene late = CLOSED.then(desk -> {
            desk.close();
            desk.close();
            desk.publish(0, 4, 120, true);
        });
        late.answers("NOW is 6", 6, desk -> desk.now(0));
        dueRow(late.then(PriceDesk::close), 1, 0, 4, 4, 2, 4, 110, 1, 6, 0);
    }

    private static void finalValuesOfThatMonth() {
        Scene scene = CLOSED.then(desk -> {
            desk.close();
            desk.publish(0, 5, 130, true);
        });
        scene.answers("a final one a month behind does not do", 0, PriceDesk::close);
        scene.answers("waits for it", 1, desk -> desk.delivery(1, 8));
        Scene frozen = new Scene("month 3;index a 100 90;contract 10 = 0 + 1000 a base 0 all 0 share 100;")
            .then(desk -> desk.deliver(0, 1, 1));
        frozen.answers("frozen at DUE, which is final", 0, desk -> desk.delivery(0, 8));
        frozen.takesBack("settled, though NOW has no value", 1, PriceDesk::close);
        Scene now = new Scene("month 3;index a 100 110;contract 10 = 0 + 1000 a base 0 all 0 share 100;").then(desk -> {
            desk.publish(0, 3, 90, false);
            desk.deliver(0, 1, 1);
        });
        now.answers("frozen at NOW, which is provisional", 1, desk -> desk.delivery(0, 8));
        now.answers("not settled, though DUE is final", 0, PriceDesk::close);
    }

    private static void trued() {
        int[][] cases = {{109, -10}, {110, 0}, {111, 10}, {1, -1090}, {999, 8890}};
        for (int[] pair : cases) {
            Scene scene = new Scene("month 1;index a 100;contract 100 = 0 + 1000 a base 0 all 0 share 100;").then(desk -> {
                desk.publish(0, 1, 110, false);
                desk.deliver(0, 1, 10);
                desk.publish(0, 1, pair[0], true);
                desk.close();
            });
            scene.answers("trued by " + pair[0], pair[1], desk -> desk.amount(0, 1));
            scene.answers("both by " + pair[0], 1100 + pair[1], desk -> desk.amount(0, 2));
            scene.answers("settled", 1, desk -> desk.delivery(0, 6));
        }
        // an index of no WEIGHT that comes later moves nothing; one of the months ahead does not count
        Scene known = new Scene("month 2;index a 100;contract 100 = 0 + 1000 a base 0 all 0 share 100;").then(desk -> {
            desk.deliver(0, 2, 1);
            desk.publish(0, 2, 105, true);
            desk.publish(0, 1, 300, true);
            desk.close();
        });
        known.answers("by the value of that month", 5, desk -> desk.amount(0, 1));
    }

    private static void theMonthStays() {
        Checks.says("(The MONTH stays.)");
        Scene scene = new Scene("month 3;index a 100;contract 100 = 0 + 1000 a base 0 all 0 share 100;").then(desk -> {
            desk.publish(0, 2, 90, false);
            desk.publish(0, 3, 95, true);
            desk.deliver(0, 2, 4);
            desk.publish(0, 2, 150, true);
        });
        dueRow(scene, 0, 0, 2, 3, 4, 2, 90, 0, NONE, 0);
        Scene ended = scene.then(PriceDesk::close);
        dueRow(ended, 0, 0, 2, 3, 4, 2, 90, 1, 3, 0);
        ended.answers("trued by the MONTH of its price", 240, desk -> desk.amount(0, 1));
    }

    private static void amounts() {
        Checks.says("0 BILLED, 1 TRUED (0: not yet), 2 both together.");
        Scene ended = CLOSED.then(desk -> {
            desk.publish(0, 4, 105, true);
            desk.close();
        });
        long[][] due = {{510, 0, 510}, {220, -10, 210}};
        for (int delivery = 0; delivery < 2; delivery++) {
            for (int what = 0; what < 3; what++) {
                int d = delivery;
                int w = what;
                ended.answers("amount(" + d + ", " + w + ")", due[d][w], desk -> desk.amount(d, w));
                ended.leavesAll("amount(" + d + ", " + w + ")", desk -> desk.amount(d, w));
            }
        }
        CLOSED.answers("not yet", 0, desk -> desk.amount(1, 1));
        CLOSED.answers("both, not yet", 220, desk -> desk.amount(1, 2));
    }

    private static void noSuchAmount() {
        Checks.says("NoSuchElementException: no such one, another what.");
        Checks.says("A call that throws changes nothing.");
        for (int what = 0; what <= 2; what++) {
            int w = what;
            for (int delivery : new int[] {-1, 2, 29, 30, MIN, MAX}) {
                CLOSED.throwsNoSuchElement("amount of " + delivery, desk -> desk.amount(delivery, w));
            }
            OPEN.throwsNoSuchElement("amount of 0 of none", desk -> desk.amount(0, w));
            FULL.throwsNoSuchElement("amount of 30 of 30", desk -> desk.amount(30, w));
        }
        for (int what : new int[] {-1, 3, 4, MIN, MAX}) {
            CLOSED.throwsNoSuchElement("amount what " + what, desk -> desk.amount(0, what));
        }
        FULL.answers("amount of the last", 210, desk -> desk.amount(29, 0));
    }

    private static void greatAmounts() {
        // 999 times 999,900; thirty of them are more than an int has
        Scene great = new Scene("month 1;index a 1;contract 9999 = 0 + 1000 a base 0 all 0 share 100;").then(desk -> {
            desk.publish(0, 1, 999, false);
            for (int k = 0; k < 30; k++) {
                desk.deliver(0, 1, 999);
            }
        });
        great.answers("BILLED", 998900100L, desk -> desk.amount(29, 0));
        great.answers("BILLED in 1", 29967003000L, desk -> desk.statement(1, 0));
        great.answers("together", 29967003000L, desk -> desk.statement(1, 2));
        great.answers("up to 35", 29967003000L, desk -> desk.statement(35, 3));
        Scene down = great.then(desk -> {
            desk.publish(0, 1, 1, true);
            desk.close();
        });
        down.answers("TRUED", -988911099L, desk -> desk.amount(29, 1));
        down.answers("TRUED as 1 ended", -29667332970L, desk -> desk.statement(1, 1));
        down.answers("together", 299670030L, desk -> desk.statement(1, 2));
        Scene up = new Scene("month 1;index a 1;contract 9999 = 0 + 1000 a base 0 all 0 share 100;").then(desk -> {
            for (int k = 0; k < 30; k++) {
                desk.deliver(0, 1, 999);
            }
            desk.publish(0, 1, 999, true);
            desk.close();
        });
        up.answers("TRUED as 1 ended", 29667332970L, desk -> desk.statement(1, 1));
        // of no price: nothing
        Scene least = new Scene("month 1;index a 999 1;contract 1 = 0 + 1000 a base 0 all 0 share 100;")
            .then(desk -> desk.deliver(0, 1, 999));
        least.answers("BILLED 0", 0, desk -> desk.amount(0, 0));
        least.answers("a PRICE of 0", 0, desk -> desk.delivery(0, 5));
    }

    /** Billed 510 in 3 and 220 and 7 in 4, trued 0 as 3 ended, -10 as 5 ended, billed 70 in 5. */
    private static final Scene STATED = CLOSED.then(desk -> {
        desk.deliver(1, 4, 1);
        desk.close();
        desk.publish(0, 4, 105, true);
        desk.deliver(1, 3, 10);
        desk.close();
    });

    private static void dueStatement(Scene scene, int month, long billed, long trued, long all) {
        scene.answers("billed in " + month, billed, desk -> desk.statement(month, 0));
        scene.answers("trued as " + month + " ended", trued, desk -> desk.statement(month, 1));
        scene.answers("both of " + month, billed + trued, desk -> desk.statement(month, 2));
        scene.answers("all up to " + month, all, desk -> desk.statement(month, 3));
    }

    private static void statementsOfMonths() {
        Checks.says("STATEMENT of a MONTH: what was BILLED in it, and what was TRUED as it ended.");
        dueStatement(STATED, 2, 0, 0, 0);
        dueStatement(STATED, 3, 510, 0, 510);
        dueStatement(STATED, 4, 227, 0, 737);
        dueStatement(STATED, 5, 70, -10, 797);
        dueStatement(STATED, 6, 0, 0, 797);
        for (int what = 0; what <= 3; what++) {
            int w = what;
            STATED.leavesAll("statement", desk -> desk.statement(5, w));
        }
        // the month in which it was, not the one of DUE or of its price
        Scene late = new Scene("month 3;index a 100 90;contract 10 = 0 + 1000 a base 0 all 0 share 100;")
            .then(desk -> desk.deliver(0, 1, 1));
        dueStatement(late, 1, 0, 0, 0);
        dueStatement(late, 3, 9, 0, 9);
    }

    private static void statementsUpTo() {
        Checks.says("STATEMENT of a MONTH: 0 BILLED, 1 TRUED, 2 together; 3 all of both up to that MONTH.");
        Scene ends = new Scene("month 0;index a 100;contract 10 = 0 + 1000 a base 0 all 0 share 100;").then(desk -> {
            desk.deliver(0, 0, 2);
            for (int month = 0; month < 34; month++) {
                desk.close();
            }
            desk.deliver(0, 34, 3);
            desk.publish(0, 34, 200, true);
            desk.close();
            desk.deliver(0, 35, 4);
        });
        dueStatement(ends, 0, 20, 0, 20);
        dueStatement(ends, 1, 0, 0, 20);
        dueStatement(ends, 33, 0, 0, 20);
        dueStatement(ends, 34, 30, 30, 80);
        dueStatement(ends, 35, 80, 0, 160);
    }

    private static void noSuchStatement() {
        Checks.says("NoSuchElementException: no such MONTH (0 to 35), another what.");
        for (int what = 0; what <= 3; what++) {
            int w = what;
            STATED.answers("month 0", 0, desk -> desk.statement(0, w));
            STATED.answers("month 35", w == 3 ? 797 : 0, desk -> desk.statement(35, w));
            for (int month : new int[] {-1, 36, 37, MIN, MAX}) {
                STATED.throwsNoSuchElement("statement of " + month, desk -> desk.statement(month, w));
            }
        }
        for (int what : new int[] {-1, 4, 5, MIN, MAX}) {
            STATED.throwsNoSuchElement("statement what " + what, desk -> desk.statement(5, what));
        }
    }

    private static void howManyWereSettled() {
        Checks.says("The MONTH ends: how many DELIVERIES were SETTLED; NONE: NOW is 35.");
        Checks.says("A MONTH ends: each DELIVERY that is not SETTLED is, by numbers, if it can be; then NOW is 1 more.");
        OPEN.takesBack("none there", 0, PriceDesk::close);
        OPEN.answers("NOW is 1 more", 4, desk -> {
            desk.close();
            return desk.now(0);
        });
        FULL.answers("all 30", 30, PriceDesk::close);
        FULL.then(PriceDesk::close).answers("none twice", 0, PriceDesk::close);
        STATED.answers("all four are settled", 4, desk -> desk.now(4));
        Scene some = new Scene("month 1;index a 1;contract 5 = 0 + 1000 a base 0 all 0 share 0;"
            + "contract 6 = 1000 base 0 all 0 share 0;").then(desk -> {
                for (int k = 0; k < 5; k++) {
                    desk.deliver(k % 2, 1, 1);
                }
            });
        some.takesBack("two of five", 2, PriceDesk::close);
        for (int k = 0; k < 5; k++) {
            int d = k;
            some.then(PriceDesk::close).answers("settled " + k, k % 2, desk -> desk.delivery(d, 6));
            some.then(PriceDesk::close).answers("as which month ended", k % 2 == 1 ? 1 : NONE, desk -> desk.delivery(d, 7));
        }
    }

    private static void theLastMonth() {
        for (int now : new int[] {33, 34, 35}) {
            Scene scene = new Scene("month " + now + ";contract 5 = 1000 base 0 all 0 share 0;")
                .then(desk -> desk.deliver(0, now, 1));
            scene.answers("it can be settled", 0, desk -> desk.delivery(0, 8));
            if (now < 35) {
                scene.takesBack("close at " + now, 1, PriceDesk::close);
                scene.answers("NOW", now + 1, desk -> {
                    desk.close();
                    return desk.now(0);
                });
            } else {
                scene.refuses("close at 35", NONE, PriceDesk::close);
            }
        }
        Scene reached = new Scene("month 34;contract 5 = 1000 base 0 all 0 share 0;").then(desk -> {
            desk.deliver(0, 34, 1);
            desk.close();
        });
        reached.refuses("35 was reached", NONE, PriceDesk::close);
        reached.then(PriceDesk::undo).answers("and undone", 1, PriceDesk::close);
    }
}
