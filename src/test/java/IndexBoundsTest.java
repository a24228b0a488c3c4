/** Boundaries of promises 7, 8, 9, 17 and 18: value, rebased, ratio, publish, rebase. */
public final class IndexBoundsTest {
    private static final int NONE = PriceDesk.NONE;
    private static final int MIN = Integer.MIN_VALUE;
    private static final int MAX = Integer.MAX_VALUE;

    /** NOW is 5; index 0 has values of 0, 1 and a provisional one of 3, index 1 of 0. */
    private static final Scene PLAIN = new Scene("month 5;index a 10 20;index b 7;"
        + "contract 100 = 0 + 500 a + 500 b base 0 all 0 share 100;").then(desk -> {
            desk.publish(0, 3, 30, false);
            desk.deliver(0, 5, 9);
        });

    /** Index 0 rebased at 1, 3 and 4, with a value of 5 by the newest base; index 1 once, at 0. */
    private static final Scene REBASED = new Scene("month 6;index a 10 20;index b 7;").then(desk -> {
        desk.rebase(0, 1, 100);
        desk.publish(0, 3, 110, true);
        desk.rebase(0, 3, 1);
        desk.publish(0, 4, 2, true);
        desk.rebase(0, 4, 999);
        desk.publish(0, 5, 998, true);
        desk.rebase(1, 0, 14);
    });

    public static void main(String[] args) {
        months();
        valueOfThree();
        known();
        noSuchValue();
        publishedValues();
        publishedMonths();
        publishedIndexes();
        theOneAhead();
        aFinalOneIsThere();
        rebasedLater();
        firstRefusalOfPublish();
        rebasedFigures();
        noSuchRebasing();
        newNumbers();
        rebasedMonths();
        rebasedIndexes();
        howOften();
        noFinalValueThere();
        laterThanAny();
        laterValues();
        threeTimes();
        firstRefusalOfRebase();
        ratioMonths();
        ratioOfRebasings();
        ratioRoundedDown();
        ratioAtMost();
        noSuchRatio();
        Checks.finish("IndexBoundsTest");
    }

    private static void months() {
        Checks.says("MONTHS are 0 to 35; NOW is one of them.");
        Scene scene = new Scene("month 35;index a 9;").then(desk -> desk.publish(0, 35, 8, true));
        scene.answers("value of 0", 9, desk -> desk.value(0, 0, 0));
        scene.answers("value of 35", 8, desk -> desk.value(0, 35, 0));
        scene.refuses("value of -1", NONE, desk -> desk.value(0, -1, 0));
        scene.refuses("value of 36", NONE, desk -> desk.value(0, 36, 0));
        for (int what = 1; what <= 3; what++) {
            int w = what;
            scene.refuses("value of -1, " + w, NONE, desk -> desk.value(0, -1, w));
            scene.refuses("value of 36, " + w, NONE, desk -> desk.value(0, 36, w));
            scene.refuses("value of MIN, " + w, NONE, desk -> desk.value(0, MIN, w));
            scene.refuses("value of MAX, " + w, NONE, desk -> desk.value(0, MAX, w));
        }
    }

    private static void dueValue(Scene scene, int index, int month, int... due) {
        for (int what = 0; what < due.length; what++) {
            int w = what;
            scene.answers("value(" + index + ", " + month + ", " + w + ")", due[w], desk -> desk.value(index, month, w));
        }
    }

    private static void valueOfThree() {
        Checks.says("An index has of a MONTH no VALUE, a PROVISIONAL one, or a FINAL one.");
        Checks.says("0 its VALUE (NONE: none), 1 0 none, 1 PROVISIONAL, 2 FINAL");
        dueValue(PLAIN, 0, 1, 20, 2);
        dueValue(PLAIN, 0, 2, NONE, 0);
        dueValue(PLAIN, 0, 3, 30, 1);
        Scene later = PLAIN.then(desk -> desk.publish(0, 3, 31, true));
        dueValue(later, 0, 3, 31, 2);
        dueValue(PLAIN, 0, 35, NONE, 0);
    }

    private static void known() {
        Checks.says("What is KNOWN of an index for a MONTH: the VALUE of the latest MONTH up to it that has one.");
        Checks.says("2 what is KNOWN (NONE), 3 the MONTH that this is of (NONE).");
        dueValue(PLAIN, 0, 0, 10, 2, 10, 0);
        dueValue(PLAIN, 0, 1, 20, 2, 20, 1);
        dueValue(PLAIN, 0, 2, NONE, 0, 20, 1);
        dueValue(PLAIN, 0, 3, 30, 1, 30, 3);
        dueValue(PLAIN, 0, 4, NONE, 0, 30, 3);
        dueValue(PLAIN, 0, 5, NONE, 0, 30, 3);
        dueValue(PLAIN, 0, 6, NONE, 0, 30, 3);
        dueValue(PLAIN, 0, 35, NONE, 0, 30, 3);
        dueValue(PLAIN, 1, 35, NONE, 0, 7, 0);
        Scene back = PLAIN.then(desk -> desk.publish(0, 2, 5, false));
        dueValue(back, 0, 2, 5, 1, 5, 2);
        dueValue(back, 0, 4, NONE, 0, 30, 3);
    }

    private static void noSuchValue() {
        Checks.says("NONE: no such ones, another what.");
        for (int what = 0; what <= 3; what++) {
            int w = what;
            for (int index : new int[] {-1, 2, 3, 6, MIN, MAX}) {
                PLAIN.refuses("value of index " + index, NONE, desk -> desk.value(index, 0, w));
            }
        }
        for (int what : new int[] {-1, 4, 5, MIN, MAX}) {
            PLAIN.refuses("value what " + what, NONE, desk -> desk.value(0, 0, what));
        }
        for (int what = 0; what <= 3; what++) {
            int w = what;
            PLAIN.leavesAll("value what " + w, desk -> desk.value(0, 3, w));
        }
    }

    private static void publishedValues() {
        Checks.says("A VALUE (1 to 999) of an index for a MONTH (0 to NOW), FINAL or PROVISIONAL");
        for (boolean isFinal : new boolean[] {false, true}) {
            for (int v : new int[] {1, 2, 998, 999}) {
                PLAIN.takesBack("publish " + v, 0, desk -> desk.publish(0, 5, v, isFinal));
                PLAIN.answers("value behind it", v, desk -> {
                    desk.publish(0, 5, v, isFinal);
                    return desk.value(0, 5, 0);
                });
                PLAIN.answers("kind behind it", isFinal ? 2 : 1, desk -> {
                    desk.publish(0, 5, v, isFinal);
                    return desk.value(0, 5, 1);
                });
            }
            for (int v : new int[] {0, -1, 1000, 1001, MIN, MAX}) {
                PLAIN.refuses("publish " + v, NONE, desk -> desk.publish(0, 5, v, isFinal));
                PLAIN.refuses("publish " + v + " on one", NONE, desk -> desk.publish(0, 3, v, isFinal));
            }
        }
    }

    private static void publishedMonths() {
        PLAIN.takesBack("publish for NOW - 1", 0, desk -> desk.publish(0, 4, 5, true));
        PLAIN.takesBack("publish for NOW", 0, desk -> desk.publish(0, 5, 5, true));
        for (int month : new int[] {6, 7, 35, 36, -1, MIN, MAX}) {
            PLAIN.refuses("publish for " + month, NONE, desk -> desk.publish(0, month, 5, true));
            PLAIN.refuses("publish for " + month, NONE, desk -> desk.publish(0, month, 5, false));
        }
        Scene closed = PLAIN.then(PriceDesk::close);
        closed.takesBack("publish for the next NOW", 0, desk -> desk.publish(0, 6, 5, true));
        closed.refuses("publish behind the next NOW", NONE, desk -> desk.publish(0, 7, 5, true));
        Scene first = new Scene("month 0;index a 1;");
        first.refuses("0 has a final one", -2, desk -> desk.publish(0, 0, 5, true));
        first.refuses("publish for 1 at NOW 0", NONE, desk -> desk.publish(0, 1, 5, true));
        Scene last = new Scene("month 35;index a 1;");
        last.takesBack("publish for 35", 0, desk -> desk.publish(0, 35, 5, true));
        last.takesBack("publish for 34", 0, desk -> desk.publish(0, 34, 5, true));
        last.takesBack("publish for 1", 0, desk -> desk.publish(0, 1, 5, true));
        last.refuses("publish for 36 at NOW 35", NONE, desk -> desk.publish(0, 36, 5, true));
    }

    private static void publishedIndexes() {
        Checks.says("(0: none). NONE: no such ones;");
        PLAIN.takesBack("publish of 0", 0, desk -> desk.publish(0, 4, 5, false));
        PLAIN.takesBack("publish of 1", 0, desk -> desk.publish(1, 4, 5, false));
        for (int index : new int[] {-1, 2, 5, 6, MIN, MAX}) {
            PLAIN.refuses("publish of " + index, NONE, desk -> desk.publish(index, 4, 5, true));
        }
        Scene six = new Scene("month 1;index a 1;index b 1;index c 1;index d 1;index e 1;index f 1;");
        six.takesBack("publish of 5", 0, desk -> desk.publish(5, 1, 5, true));
        six.refuses("publish of 6", NONE, desk -> desk.publish(6, 1, 5, true));
    }

    private static void theOneAhead() {
        Checks.says("the one ahead (0: none)");
        PLAIN.answers("none ahead", 0, desk -> desk.publish(0, 4, 5, false));
        PLAIN.takesBack("a provisional one ahead", 30, desk -> desk.publish(0, 3, 5, false));
        PLAIN.takesBack("a provisional one, then a final one", 30, desk -> desk.publish(0, 3, 5, true));
        PLAIN.takesBack("the same again", 30, desk -> desk.publish(0, 3, 30, false));
        for (int v : new int[] {1, 999}) {
            Scene one = PLAIN.then(desk -> desk.publish(0, 4, v, false));
            one.answers("one of " + v + " ahead", v, desk -> desk.publish(0, 4, 5, true));
        }
        PLAIN.then(desk -> desk.publish(0, 3, 31, false)).answers("the latest", 31, desk -> desk.publish(0, 3, 5, false));
    }

    private static void aFinalOneIsThere() {
        Checks.says("-2: a FINAL one is there");
        for (boolean isFinal : new boolean[] {false, true}) {
            PLAIN.refuses("on one told", -2, desk -> desk.publish(0, 0, 5, isFinal));
            PLAIN.refuses("on one told", -2, desk -> desk.publish(0, 1, 5, isFinal));
            PLAIN.refuses("the same", -2, desk -> desk.publish(0, 1, 20, isFinal));
            Scene made = PLAIN.then(desk -> desk.publish(0, 3, 31, true));
            made.refuses("on one published", -2, desk -> desk.publish(0, 3, 31, isFinal));
            Scene undone = made.then(PriceDesk::undo);
            undone.answers("the final one is undone", 30, desk -> desk.publish(0, 3, 31, isFinal));
        }
    }

    private static void rebasedLater() {
        Checks.says("-3: the index was REBASED at a later MONTH, or at this one.");
        Scene scene = new Scene("month 6;index a 10;index b 10;").then(desk -> {
            desk.publish(0, 2, 15, false);
            desk.publish(0, 4, 20, true);
            desk.rebase(0, 4, 100);
        });
        for (boolean isFinal : new boolean[] {false, true}) {
            scene.refuses("a month ahead of it", -3, desk -> desk.publish(0, 3, 5, isFinal));
            scene.refuses("on a provisional one ahead of it", -3, desk -> desk.publish(0, 2, 5, isFinal));
            scene.refuses("the first that has none", -3, desk -> desk.publish(0, 1, 5, isFinal));
            scene.refuses("at this one: a FINAL one is there", -2, desk -> desk.publish(0, 4, 5, isFinal));
            scene.takesBack("a month behind it", 0, desk -> desk.publish(0, 5, 5, isFinal));
            scene.takesBack("the other index", 0, desk -> desk.publish(1, 3, 5, isFinal));
            scene.then(PriceDesk::undo).answers("the rebasing is undone", 0, desk -> desk.publish(0, 3, 5, isFinal));
            // rebased twice: between the two is ahead of the later
            Scene twice = scene.then(desk -> {
                desk.publish(0, 6, 7, true);
                desk.rebase(0, 6, 70);
            });
            twice.refuses("between two", -3, desk -> desk.publish(0, 5, 5, isFinal));
            twice.refuses("ahead of both", -3, desk -> desk.publish(0, 3, 5, isFinal));
        }
        Scene first = new Scene("month 6;index a 10;").then(desk -> desk.rebase(0, 0, 100));
        first.takesBack("rebased at 0: 1 is later", 0, desk -> desk.publish(0, 1, 5, false));
    }

    private static void firstRefusalOfPublish() {
        Scene scene = REBASED;
        scene.refuses("no such value, a FINAL one", NONE, desk -> desk.publish(0, 1, 0, true));
        scene.refuses("no such value, rebased later", NONE, desk -> desk.publish(0, 2, 1000, true));
        scene.refuses("FINAL, rebased later", -2, desk -> desk.publish(0, 0, 5, true));
        scene.refuses("FINAL, rebased at this one", -2, desk -> desk.publish(0, 1, 5, true));
    }

    private static void rebasedFigures() {
        Checks.says("Of the k-th (from 0) rebasing of an index: 0 the MONTH, 1 OLD, 2 NEW.");
        int[][] due = {{1, 20, 100}, {3, 110, 1}, {4, 2, 999}};
        for (int k = 0; k < 3; k++) {
            for (int what = 0; what < 3; what++) {
                int at = k;
                int w = what;
                REBASED.answers("rebased(0, " + k + ", " + what + ")", due[k][what], desk -> desk.rebased(0, at, w));
                REBASED.leavesAll("rebased", desk -> desk.rebased(0, at, w));
            }
        }
        REBASED.answers("the other's", 14, desk -> desk.rebased(1, 0, 2));
        REBASED.answers("the other's", 0, desk -> desk.rebased(1, 0, 0));
        REBASED.answers("the other's", 7, desk -> desk.rebased(1, 0, 1));
    }

    private static void noSuchRebasing() {
        Checks.says("NONE: none such, another what.");
        for (int what = 0; what < 3; what++) {
            int w = what;
            for (int k : new int[] {-1, 3, 4, MIN, MAX}) {
                REBASED.refuses("rebased k " + k, NONE, desk -> desk.rebased(0, k, w));
            }
            REBASED.refuses("one more than it was", NONE, desk -> desk.rebased(1, 1, w));
            PLAIN.refuses("it never was", NONE, desk -> desk.rebased(0, 0, w));
            for (int index : new int[] {-1, 2, 6, MIN, MAX}) {
                REBASED.refuses("rebased of " + index, NONE, desk -> desk.rebased(index, 0, w));
            }
        }
        for (int what : new int[] {-1, 3, 4, MIN, MAX}) {
            REBASED.refuses("rebased what " + what, NONE, desk -> desk.rebased(0, 0, what));
        }
    }

    private static void newNumbers() {
        Checks.says("a NEW number (1 to 999) for that MONTH");
        for (int fresh : new int[] {1, 2, 998, 999}) {
            PLAIN.takesBack("NEW " + fresh, 1, desk -> desk.rebase(1, 0, fresh));
            PLAIN.answers("NEW told", fresh, desk -> {
                desk.rebase(1, 0, fresh);
                return desk.rebased(1, 0, 2);
            });
            PLAIN.answers("the VALUE of that MONTH stays", 7, desk -> {
                desk.rebase(1, 0, fresh);
                return desk.value(1, 0, 0);
            });
        }
        for (int fresh : new int[] {0, -1, 1000, 1001, MIN, MAX}) {
            PLAIN.refuses("NEW " + fresh, NONE, desk -> desk.rebase(1, 0, fresh));
        }
    }

    private static void rebasedMonths() {
        Checks.says("NONE: no such ones (NEW, the MONTH 0 to NOW)");
        Scene scene = new Scene("month 3;index a 1 2 3 4;index b 1;");
        scene.takesBack("at NOW", 1, desk -> desk.rebase(0, 3, 5));
        scene.takesBack("at 0", 1, desk -> desk.rebase(1, 0, 5));
        for (int month : new int[] {-1, 4, 5, 35, 36, MIN, MAX}) {
            scene.refuses("at " + month, NONE, desk -> desk.rebase(0, month, 5));
        }
        Scene last = new Scene("month 35;index a 1;").then(desk -> desk.publish(0, 35, 3, true));
        last.takesBack("at 35", 1, desk -> desk.rebase(0, 35, 5));
        last.refuses("at 36", NONE, desk -> desk.rebase(0, 36, 5));
    }

    private static void rebasedIndexes() {
        Scene six = new Scene("month 0;index a 1;index b 1;index c 1;index d 1;index e 1;index f 1;");
        six.takesBack("index 0", 1, desk -> desk.rebase(0, 0, 5));
        six.takesBack("index 5", 1, desk -> desk.rebase(5, 0, 5));
        for (int index : new int[] {-1, 6, 7, MIN, MAX}) {
            six.refuses("rebase of " + index, NONE, desk -> desk.rebase(index, 0, 5));
        }
        PLAIN.refuses("rebase of 2", NONE, desk -> desk.rebase(2, 0, 5));
    }

    private static void howOften() {
        Checks.says("REBASED at a MONTH: how often it was then.");
        Scene scene = new Scene("month 9;index a 1;");
        scene.answers("first", 1, desk -> desk.rebase(0, 0, 5));
        Scene once = scene.then(desk -> {
            desk.rebase(0, 0, 5);
            desk.publish(0, 1, 5, true);
        });
        once.answers("second", 2, desk -> desk.rebase(0, 1, 5));
        Scene twice = once.then(desk -> {
            desk.rebase(0, 1, 5);
            desk.publish(0, 9, 5, true);
        });
        twice.answers("third", 3, desk -> desk.rebase(0, 9, 5));
        once.then(PriceDesk::undo).then(PriceDesk::undo).answers("first again", 1, desk -> desk.rebase(0, 0, 6));
    }

    private static void noFinalValueThere() {
        Checks.says("An index is REBASED at a MONTH that has a FINAL VALUE (OLD)");
        Checks.says("-2: no FINAL VALUE there");
        PLAIN.refuses("none there", -2, desk -> desk.rebase(0, 5, 5));
        PLAIN.refuses("none there, a later one has one", -2, desk -> desk.rebase(0, 2, 5));
        PLAIN.refuses("a provisional one there", -2, desk -> desk.rebase(0, 3, 5));
        Scene made = PLAIN.then(desk -> desk.publish(0, 3, 31, true));
        made.takesBack("a final one there", 1, desk -> desk.rebase(0, 3, 5));
        made.answers("OLD", 31, desk -> {
            desk.rebase(0, 3, 5);
            return desk.rebased(0, 0, 1);
        });
    }

    private static void laterThanAny() {
        Checks.says("later than any at which it was");
        Checks.says("-3: not later than ahead, a later MONTH has a VALUE");
        Scene scene = new Scene("month 5;index a 1 2 3;").then(desk -> {
            desk.rebase(0, 2, 50);
        });
        scene.refuses("at the one ahead of it", -3, desk -> desk.rebase(0, 1, 5));
        scene.refuses("at 0", -3, desk -> desk.rebase(0, 0, 5));
        scene.refuses("at that one", -3, desk -> desk.rebase(0, 2, 5));
        scene.refuses("at that one by the same number", -3, desk -> desk.rebase(0, 2, 50));
        scene.refuses("at the one behind it, which has none", -2, desk -> desk.rebase(0, 3, 5));
        Scene next = scene.then(desk -> desk.publish(0, 3, 51, true));
        next.takesBack("at the one behind it", 2, desk -> desk.rebase(0, 3, 5));
        next.refuses("at that one, a later one has a value", -3, desk -> desk.rebase(0, 2, 5));
    }

    private static void laterValues() {
        Checks.says("VALUES of later MONTHS are by the NEW base (there must be none yet)");
        for (boolean isFinal : new boolean[] {false, true}) {
            for (int month : new int[] {2, 3, 34, 35}) {
                Scene scene = new Scene("month 35;index a 1 2;").then(desk -> desk.publish(0, month, 9, isFinal));
                scene.refuses("a value of " + month, -3, desk -> desk.rebase(0, 1, 5));
                scene.refuses("values of 1 and " + month, -3, desk -> desk.rebase(0, 0, 5));
                scene.then(PriceDesk::undo).takesBack("undone", 1, desk -> desk.rebase(0, 1, 5));
            }
        }
        Scene ahead = new Scene("month 35;index a 1 2;");
        ahead.takesBack("a value ahead of it is none later", 1, desk -> desk.rebase(0, 1, 5));
    }

    private static void threeTimes() {
        Checks.says("3 times at most.");
        Checks.says("-4: 3 times already.");
        REBASED.refuses("a fourth", -4, desk -> desk.rebase(0, 5, 5));
        REBASED.then(desk -> desk.publish(1, 6, 9, true)).answers("the other's second", 2, desk -> desk.rebase(1, 6, 5));
        Scene twice = new Scene("month 6;index a 10 20;").then(desk -> {
            desk.rebase(0, 1, 100);
            desk.publish(0, 3, 110, true);
            desk.rebase(0, 3, 1);
            desk.publish(0, 4, 2, true);
        });
        twice.takesBack("a third", 3, desk -> desk.rebase(0, 4, 5));
        Scene undone = twice.then(desk -> {
            desk.rebase(0, 4, 5);
            desk.undo();
        });
        undone.answers("a third anew", 3, desk -> desk.rebase(0, 4, 6));
    }

    private static void firstRefusalOfRebase() {
        REBASED.refuses("no such number, 3 times already", NONE, desk -> desk.rebase(0, 5, 0));
        REBASED.refuses("no such number, none there", NONE, desk -> desk.rebase(0, 6, 1000));
        REBASED.refuses("no such month, 3 times already", NONE, desk -> desk.rebase(0, 7, 5));
        REBASED.refuses("none there, 3 times already", -2, desk -> desk.rebase(0, 6, 5));
        REBASED.refuses("none there, not later than ahead", -2, desk -> desk.rebase(0, 2, 5));
        REBASED.refuses("not later, 3 times already", -3, desk -> desk.rebase(0, 4, 5));
        Scene more = REBASED.then(desk -> desk.publish(0, 6, 3, false));
        more.refuses("a later value, 3 times already", -3, desk -> desk.rebase(0, 5, 5));
    }

    private static void ratioMonths() {
        Checks.says("RATIO of an index from a MONTH to a later (or that) one, of a VALUE each");
        Scene scene = new Scene("month 4;index a 100 110 121;").then(desk -> desk.publish(0, 4, 200, false));
        scene.answers("to that one", 1000000, desk -> desk.ratio(0, 1, 1));
        scene.answers("to the next", 1100000, desk -> desk.ratio(0, 1, 2));
        scene.answers("to a later", 1210000, desk -> desk.ratio(0, 0, 2));
        scene.answers("to a provisional one", 2000000, desk -> desk.ratio(0, 0, 4));
        scene.answers("of a provisional one", 1000000, desk -> desk.ratio(0, 4, 4));
        scene.leavesAll("ratio", desk -> desk.ratio(0, 0, 4));
        Scene last = new Scene("month 35;index a 100;").then(desk -> desk.publish(0, 35, 50, true));
        last.answers("from 0 to 35", 500000, desk -> desk.ratio(0, 0, 35));
        last.answers("from 35 to 35", 1000000, desk -> desk.ratio(0, 35, 35));
    }

    private static void ratioOfRebasings() {
        Checks.says("the later VALUE times OLD of each rebasing at MONTHS from the first on, "
            + "ahead of the MONTH of the later VALUE, by the first VALUE times NEW of each");
        Checks.says("those of that MONTH and ahead by the base ahead.");
        Scene scene = new Scene("month 3;index a 100 110;").then(desk -> {
            desk.rebase(0, 1, 55);
            desk.publish(0, 2, 60, true);
            desk.publish(0, 3, 66, true);
        });
        scene.answers("to the rebased month", 1100000, desk -> desk.ratio(0, 0, 1));
        scene.answers("to the one behind it", 1200000, desk -> desk.ratio(0, 0, 2));
        scene.answers("of the rebased month", 1000000, desk -> desk.ratio(0, 1, 1));
        scene.answers("from the rebased month", 1090909, desk -> desk.ratio(0, 1, 2));
        scene.answers("from the one behind it", 1100000, desk -> desk.ratio(0, 2, 3));
        scene.answers("across", 1320000, desk -> desk.ratio(0, 0, 3));
        // three times: each counts by itself
        REBASED.answers("1 to 3", 1100000, desk -> desk.ratio(0, 1, 3));
        REBASED.answers("3 to 4", 2000000, desk -> desk.ratio(0, 3, 4));
        REBASED.answers("4 to 5", 998998, desk -> desk.ratio(0, 4, 5));
        REBASED.answers("0 to 4: 2 * 20 * 110 by 10 * 100 * 1", 4400000, desk -> desk.ratio(0, 0, 4));
        REBASED.answers("0 to 5: 998 * 20 * 110 * 2 by 10 * 100 * 1 * 999", 4395595, desk -> desk.ratio(0, 0, 5));
    }

    /** From 0 to 3 the ratio is of above's product to below's: a first value, two rebasings, a later value. */
    static Scene.Acts chain(int[] above, int[] below) {
        return desk -> {
            Checks.tell(desk, "month 3;index a " + below[0] + " " + above[0]
                + ";contract 1 = 0 + 1000 a base 0 all 0 share 100;contract 9999 = 0 + 1000 a base 0 all 0 share 100;");
            desk.rebase(0, 1, below[1]);
            desk.publish(0, 2, above[1], true);
            desk.rebase(0, 2, below[2]);
            desk.publish(0, 3, above[2], true);
        };
    }

    private static void dueChain(int due, int[] above, int[] below) {
        new Scene(chain(above, below)).answers("ratio " + due, due, desk -> desk.ratio(0, 0, 3));
    }

    private static void ratioRoundedDown() {
        Checks.says("in millionths, rounded down");
        dueChain(1000000, new int[] {800, 625, 2}, new int[] {625, 2, 800});
        dueChain(999999, new int[] {356, 53, 53}, new int[] {815, 409, 3});
        dueChain(999999, new int[] {939, 355, 3}, new int[] {932, 37, 29});
        dueChain(1999999, new int[] {903, 443, 5}, new int[] {179, 151, 37});
        // 1000001.99995 is not 1000002
        dueChain(1000001, new int[] {721, 73, 19}, new int[] {905, 221, 5});
        dueChain(1, new int[] {1, 1, 1}, new int[] {100, 100, 100});
        dueChain(0, new int[] {1, 1, 1}, new int[] {999, 999, 2});
        dueChain(0, new int[] {1, 1, 1}, new int[] {999, 999, 999});
        Scene thirds = new Scene("month 2;index a 3 1 2;");
        thirds.answers("a third", 333333, desk -> desk.ratio(0, 0, 1));
        thirds.answers("two thirds", 666666, desk -> desk.ratio(0, 0, 2));
    }

    private static void ratioAtMost() {
        Checks.says("99,999,999 at most.");
        dueChain(99999998, new int[] {893, 842, 133}, new int[] {939, 355, 3});
        dueChain(99999999, new int[] {909, 803, 137}, new int[] {800, 625, 2});
        dueChain(99999999, new int[] {800, 625, 200}, new int[] {800, 625, 2});
        dueChain(99999999, new int[] {999, 999, 999}, new int[] {1, 1, 1});
        Scene greatest = new Scene("month 4;index a 1 999;").then(desk -> {
            desk.rebase(0, 1, 1);
            desk.publish(0, 2, 999, true);
            desk.rebase(0, 2, 1);
            desk.publish(0, 3, 999, true);
            desk.rebase(0, 3, 1);
            desk.publish(0, 4, 999, true);
        });
        greatest.answers("999 four times", 99999999, desk -> desk.ratio(0, 0, 4));
        Scene small = new Scene("month 1;index a 10 999;index b 10 990;index c 1 99;index d 1 100;");
        small.answers("99.9", 99900000, desk -> desk.ratio(0, 0, 1));
        small.answers("99", 99000000, desk -> desk.ratio(1, 0, 1));
        small.answers("99", 99000000, desk -> desk.ratio(2, 0, 1));
        small.answers("100", 99999999, desk -> desk.ratio(3, 0, 1));
    }

    private static void noSuchRatio() {
        Checks.says("NoSuchElementException: no such ones, the first is later, one has no VALUE.");
        PLAIN.throwsNoSuchElement("the first is later", desk -> desk.ratio(0, 1, 0));
        PLAIN.throwsNoSuchElement("the first is much later", desk -> desk.ratio(0, 3, 0));
        PLAIN.throwsNoSuchElement("no value of the first", desk -> desk.ratio(0, 2, 3));
        PLAIN.throwsNoSuchElement("no value of the later", desk -> desk.ratio(0, 1, 2));
        PLAIN.throwsNoSuchElement("no value of both", desk -> desk.ratio(0, 4, 5));
        PLAIN.throwsNoSuchElement("no value of that one", desk -> desk.ratio(0, 2, 2));
        PLAIN.throwsNoSuchElement("behind NOW", desk -> desk.ratio(0, 0, 6));
        for (int index : new int[] {-1, 2, 6, MIN, MAX}) {
            PLAIN.throwsNoSuchElement("ratio of index " + index, desk -> desk.ratio(index, 0, 0));
        }
        for (int month : new int[] {-1, 36, MIN, MAX}) {
            PLAIN.throwsNoSuchElement("ratio from " + month, desk -> desk.ratio(0, month, 1));
            PLAIN.throwsNoSuchElement("ratio to " + month, desk -> desk.ratio(0, 0, month));
            PLAIN.throwsNoSuchElement("ratio of " + month, desk -> desk.ratio(0, month, month));
        }
    }
}
