/** Boundaries of promise 21: undo; what is kept, what is no act, what comes back. */
public final class UndoBoundsTest {
    private static final int NONE = PriceDesk.NONE;

    private static final String TEXT = "month 2;index a 100 110;index b 50;"
        + "contract 100 = 0 + 600 a + 400 b base 0 all 0 share 100;contract 7 = 1000 base 2 all 0 share 0;";
    private static final Scene TOLD = new Scene(TEXT);

    public static void main(String[] args) {
        noneIs();
        eightAreKept();
        kindsAreKeptAlike();
        longRuns();
        undoneAndDoneAnew();
        publishUndone();
        rebaseUndone();
        deliverUndone();
        closeUndone();
        refusedCallsAreNotKept();
        whatIsNoAct();
        aFaultKeepsThem();
        inAnyOrder();
        Checks.finish("UndoBoundsTest");
    }

    private static void noneIs() {
        Checks.says("NONE: none is.");
        TOLD.refuses("undo of none", NONE, PriceDesk::undo);
        Scene.ofNew().refuses("undo on a new object", NONE, PriceDesk::undo);
        Scene one = TOLD.then(desk -> desk.deliver(0, 2, 5));
        one.answers("undo of one", 0, PriceDesk::undo);
        one.then(PriceDesk::undo).refuses("undo behind it", NONE, PriceDesk::undo);
        TOLD.isLike("a deliver and its undo", one.then(PriceDesk::undo));
    }

    /** Each close is an act; NOW tells how many were done. */
    private static Scene closed(int times) {
        return new Scene("month 0;index a 1;").then(desk -> {
            for (int k = 0; k < times; k++) {
                desk.close();
            }
        });
    }

    private static void eightAreKept() {
        Checks.says("how many more can be (8 at most are kept)");
        for (int times : new int[] {0, 1, 6, 7, 8, 9, 10, 15, 16, 17, 35}) {
            Scene scene = closed(times);
            int kept = Math.min(times, 8);
            scene.answers("what can be undone of " + times, kept, desk -> desk.now(5));
            for (int undos = 1; undos <= 9; undos++) {
                int u = undos;
                scene.answers("undo " + undos + " of " + times, undos <= kept ? kept - undos : NONE, desk -> {
                    int left = 0;
                    for (int k = 0; k < u; k++) {
                        left = desk.undo();
                    }
                    return left;
                });
                scene.answers("NOW behind undo " + undos + " of " + times, times - Math.min(undos, kept), desk -> {
                    for (int k = 0; k < u; k++) {
                        desk.undo();
                    }
                    return desk.now(0);
                });
            }
        }
    }

    private static void kindsAreKeptAlike() {
        PriceDesk desk = Checks.desk(TEXT);
        desk.publish(1, 1, 51, false);
        desk.publish(1, 1, 52, true);
        desk.rebase(1, 1, 26);
        desk.deliver(0, 1, 9);
        desk.close();
        desk.publish(0, 2, 120, true);
        desk.deliver(1, 3, 4);
        desk.close();
        Checks.due("eight", desk.now(5), 8);
        desk.publish(0, 4, 130, false);
        Checks.due("still eight", desk.now(5), 8);
        for (int left = 7; left >= 0; left--) {
            Checks.due("undo", desk.undo(), left);
        }
        Checks.due("the first of nine is not undone", desk.value(1, 1, 0), 51);
        Checks.due("it is provisional again", desk.value(1, 1, 1), 1);
        Checks.due("no more", desk.undo(), NONE);
        Checks.due("NOW", desk.now(0), 2);
        Checks.due("no delivery", desk.now(3), 0);
        Checks.due("no rebasing", desk.rebased(1, 0, 0), NONE);
    }

    private static void longRuns() {
        // eight undone of many, twenty times over: what is kept does not grow stale
        PriceDesk desk = Checks.desk("month 1;index a 1;");
        int last = 0;
        for (int round = 0; round < 20; round++) {
            for (int k = 1; k <= 9; k++) {
                Checks.due("the one ahead", desk.publish(0, 1, 100 + 10 * round + k, false), last);
                last = 100 + 10 * round + k;
            }
            for (int left = 7; left >= 0; left--) {
                Checks.due("undo", desk.undo(), left);
            }
            last = 100 + 10 * round + 1;
            Checks.due("the first of nine", desk.value(0, 1, 0), last);
            Checks.due("none is", desk.undo(), NONE);
        }
    }

    private static void undoneAndDoneAnew() {
        Scene scene = closed(8).then(desk -> {
            desk.undo();
            desk.undo();
            desk.undo();
            desk.publish(0, 5, 9, false);
        });
        scene.answers("five and one", 6, desk -> desk.now(5));
        scene.answers("the new one is undone first", 0, desk -> {
            desk.undo();
            return desk.value(0, 5, 1);
        });
        scene.answers("NOW stays by it", 5, desk -> {
            desk.undo();
            return desk.now(0);
        });
        scene.then(PriceDesk::undo).answers("then the fifth close", 4, desk -> {
            desk.undo();
            return desk.now(0);
        });
        closed(5).isLike("undone and done and undone", scene.then(PriceDesk::undo));
    }

    private static void publishUndone() {
        Checks.says("The latest publish(), rebase(), deliver(), close() that was done is undone");
        for (boolean isFinal : new boolean[] {false, true}) {
            TOLD.takesBack("a first value", 0, desk -> desk.publish(1, 2, 60, isFinal));
            Scene one = TOLD.then(desk -> desk.publish(1, 2, 60, false));
            one.takesBack("on a provisional one", 60, desk -> desk.publish(1, 2, 61, isFinal));
            one.takesBack("the same again", 60, desk -> desk.publish(1, 2, 60, isFinal));
            one.takesBack("ahead of it", 0, desk -> desk.publish(1, 1, 999, isFinal));
        }
        // were and rises in between leave what comes back as it was
        Scene asked = TOLD.then(desk -> {
            desk.publish(1, 2, 60, false);
            desk.were(0, 1, 999);
            desk.rises(0, 1);
            desk.undo();
        });
        TOLD.isLike("were and rises, then undo", asked);
    }

    private static void rebaseUndone() {
        TOLD.takesBack("a first rebasing", 1, desk -> desk.rebase(0, 1, 55));
        Scene once = TOLD.then(desk -> {
            desk.rebase(0, 1, 55);
            desk.publish(0, 2, 60, true);
        });
        once.takesBack("a second", 2, desk -> desk.rebase(0, 2, 30));
        once.isLike("another number in its place", once.then(desk -> {
            desk.rebase(0, 2, 30);
            desk.undo();
            desk.undo();
            desk.publish(0, 2, 60, true);
        }));
        Scene anew = TOLD.then(desk -> {
            desk.rebase(0, 1, 55);
            desk.undo();
            desk.rebase(0, 1, 66);
        });
        TOLD.then(desk -> desk.rebase(0, 1, 66)).isLike("rebased anew", anew);
    }

    private static void deliverUndone() {
        TOLD.takesBack("a first", 0, desk -> desk.deliver(0, 2, 5));
        TOLD.takesBack("a late one", 0, desk -> desk.deliver(0, 1, 5));
        Scene none = TOLD.then(desk -> {
            desk.deliver(1, 2, 5);
            desk.undo();
        });
        none.takesBack("none is left to be settled", 0, PriceDesk::close);
        Scene one = TOLD.then(desk -> desk.deliver(0, 2, 5));
        one.takesBack("a second", 1, desk -> desk.deliver(1, 2, 999));
        Scene anew = one.then(desk -> {
            desk.deliver(1, 2, 999);
            desk.close();
            desk.undo();
            desk.undo();
            desk.deliver(0, 2, 3);
        });
        one.then(desk -> desk.deliver(0, 2, 3)).isLike("one in the place of one that was settled", anew);
    }

    private static void closeUndone() {
        Scene scene = TOLD.then(desk -> {
            desk.deliver(1, 2, 5);
            desk.deliver(0, 2, 5);
        });
        scene.takesBack("one settled", 1, PriceDesk::close);
        Scene next = scene.then(desk -> {
            desk.close();
            desk.publish(0, 2, 130, true);
            desk.publish(1, 2, 70, true);
        });
        next.takesBack("the other settled", 1, PriceDesk::close);
        next.answers("what was settled ahead stays", 1, desk -> {
            desk.close();
            desk.undo();
            return desk.now(4);
        });
        next.answers("trued anew by what is known then", 5 * 134 - 5 * 106, desk -> {
            desk.close();
            desk.undo();
            desk.close();
            return desk.amount(1, 1);
        });
        scene.isLike("all four undone", next.then(desk -> {
            desk.close();
            desk.undo();
            desk.undo();
            desk.undo();
            desk.undo();
        }));
    }

    private static void refusedCallsAreNotKept() {
        Scene scene = TOLD.then(desk -> desk.publish(1, 1, 51, false));
        scene.refuses("publish NONE", NONE, desk -> desk.publish(2, 1, 5, true));
        scene.refuses("publish -2", -2, desk -> desk.publish(0, 1, 5, true));
        scene.refuses("rebase NONE", NONE, desk -> desk.rebase(0, 3, 5));
        scene.refuses("rebase -2", -2, desk -> desk.rebase(1, 1, 5));
        scene.refuses("rebase -3", -3, desk -> desk.rebase(0, 0, 5));
        scene.refuses("deliver NONE", NONE, desk -> desk.deliver(0, 3, 5));
        Scene rebased = scene.then(desk -> desk.rebase(0, 1, 5));
        rebased.refuses("publish -2", -2, desk -> desk.publish(0, 0, 5, true));
        Scene last = new Scene("month 35;index a 1;").then(desk -> desk.publish(0, 35, 5, false));
        last.refuses("close NONE", NONE, PriceDesk::close);
        last.then(PriceDesk::close).answers("the publish is undone behind it", 0, PriceDesk::undo);
        // refused at eight: the oldest is still there
        Scene eight = closed(8);
        eight.refuses("publish at eight", NONE, desk -> desk.publish(1, 0, 5, true));
        eight.refuses("rebase at eight", NONE, desk -> desk.rebase(1, 0, 5));
        eight.refuses("deliver at eight", NONE, desk -> desk.deliver(0, 0, 5));
    }

    private static void whatIsNoAct() {
        Scene scene = TOLD.then(desk -> desk.deliver(0, 2, 5));
        scene.leavesAll("were", desk -> desk.were(0, 0, 5));
        scene.leavesAll("rises", desk -> desk.rises(0, 0));
        scene.leavesAll("statement", desk -> desk.statement(2, 3));
        scene.answers("feed is no act", 0, desk -> {
            desk.feed(1, 2, 3, 4, 5);
            desk.end(7);
            return desk.undo();
        });
        scene.answers("the tape stays by undo", 7, desk -> {
            desk.feed(1, 2, 3, 4, 5);
            desk.end(7);
            desk.undo();
            return desk.now(6);
        });
        scene.answers("an undo is no act", NONE, desk -> {
            desk.undo();
            return desk.undo();
        });
    }

    private static void aFaultKeepsThem() {
        Scene scene = TOLD.then(desk -> {
            desk.deliver(0, 2, 5);
            desk.close();
        });
        scene.refusesText("month 0;index a ", "0;", 2);
        scene.then(desk -> Checks.tell(desk, "?")).answers("undo behind a fault", 1, PriceDesk::undo);
        scene.then(desk -> Checks.tell(desk, TEXT)).answers("undo behind a text", NONE, PriceDesk::undo);
        scene.then(PriceDesk::text).answers("undo behind an empty text", NONE, PriceDesk::undo);
        TOLD.isLike("the same text again", scene.then(desk -> Checks.tell(desk, TEXT)));
    }

    /** Every order of four acts, undone one by one: each step back is as the step ahead was. */
    private static void inAnyOrder() {
        Scene.Acts[] acts = {desk -> desk.publish(1, desk.now(0), 70, true), desk -> desk.rebase(0, 1, 55),
            desk -> desk.deliver(0, desk.now(0), 5), PriceDesk::close, desk -> desk.publish(0, 2, 140, true)};
        for (int order = 0; order < 625; order++) {
            Scene ahead = TOLD;
            int code = order;
            for (int k = 0; k < 3; k++) {
                ahead = ahead.then(acts[code % 5]);
                code /= 5;
            }
            Scene.Acts last = acts[code % 5];
            Scene behind = ahead.then(desk -> {
                int kept = desk.now(5);
                last.on(desk);
                if (desk.now(5) > kept) {
                    desk.undo();
                }
            });
            ahead.isLike("order " + order, behind);
        }
    }
}
