/** Boundaries of promises 1 to 6: a new object, feed, end, text, fault, now. */
public final class TapeBoundsTest {
    private static final int NONE = PriceDesk.NONE;
    private static final int MIN = Integer.MIN_VALUE;
    private static final int MAX = Integer.MAX_VALUE;
    private static final int BLANKS = 0x20202020;
    private static final int MARKS = 0x3f3f3f3f;

    private static final Scene BUSY = new Scene("month 2;index a 100 110;contract 50 = 0 + 1000 a base 0 all 0 share 100;")
        .then(desk -> {
            desk.publish(0, 2, 120, false);
            desk.deliver(0, 2, 3);
            desk.close();
            desk.publish(0, 2, 130, true);
            desk.deliver(0, 3, 4);
            desk.close();
        });

    public static void main(String[] args) {
        nothingTold();
        newObjectsRefuse();
        objectsAreApart();
        twentyBytes();
        highestFirst();
        noMoreThan740();
        bytesOfARefusedFeed();
        firstBytesAlone();
        notSoMany();
        belowZero();
        emptyThen();
        anEmptyText();
        allStays();
        aNewText();
        whatTextsLeaveBehind();
        kindOfTheLatest();
        zeroAheadOfAny();
        nowWhats();
        fiveHundredAndTwelveCalls();
        Checks.finish("TapeBoundsTest");
    }

    private static void nothingTold() {
        Checks.says("`PriceDesk()`: NOW 0, nothing told; an empty tape.");
        Scene scene = Scene.ofNew();
        for (int what = 0; what <= 6; what++) {
            int w = what;
            scene.answers("new now(" + w + ")", 0, desk -> desk.now(w));
            scene.answers("new value(0, 0, " + w + ")", NONE, desk -> desk.value(0, 0, w));
            scene.answers("new rebased(0, 0, " + w + ")", NONE, desk -> desk.rebased(0, 0, w));
            scene.answers("new contract(0, " + w + ")", NONE, desk -> desk.contract(0, w));
            scene.answers("new delivery(0, " + w + ")", NONE, desk -> desk.delivery(0, w));
        }
        for (int month = 0; month < 36; month++) {
            int m = month;
            for (int what = 0; what <= 3; what++) {
                int w = what;
                scene.answers("new statement(" + m + ", " + w + ")", 0, desk -> desk.statement(m, w));
            }
        }
        scene.answers("new text()", 0, PriceDesk::text);
        scene.answers("new fault()", 0, PriceDesk::fault);
        scene.isLike("an empty text on a new object", scene.then(PriceDesk::text));
    }

    private static void newObjectsRefuse() {
        Scene scene = Scene.ofNew();
        scene.refuses("new publish", NONE, desk -> desk.publish(0, 0, 1, true));
        scene.refuses("new rebase", NONE, desk -> desk.rebase(0, 0, 1));
        scene.refuses("new deliver", NONE, desk -> desk.deliver(0, 0, 1));
        scene.refuses("new undo", NONE, PriceDesk::undo);
        scene.refuses("new were", NONE, desk -> desk.were(0, 0, 1));
        scene.refuses("new rises", NONE, desk -> desk.rises(0, 0));
        scene.refuses("new end(1)", 0, desk -> desk.end(1) ? 1 : 0);
        scene.throwsNoSuchElement("new ratio", desk -> desk.ratio(0, 0, 0));
        scene.throwsNoSuchElement("new price", desk -> desk.price(0, 0, 0));
        scene.throwsNoSuchElement("new amount", desk -> desk.amount(0, 0));
        scene.takesBack("new close", 0, PriceDesk::close);
    }

    private static void objectsAreApart() {
        PriceDesk first = Checks.desk("month 7;index a 5;");
        PriceDesk second = new PriceDesk();
        first.feed(MARKS, MARKS, MARKS, MARKS, MARKS);
        Checks.due("the other's NOW", second.now(0), 0);
        Checks.due("the other's indexes", second.now(1), 0);
        Checks.due("the other's tape", second.now(6), 0);
        second.close();
        Checks.due("the first's NOW", first.now(0), 7);
        Checks.due("the first can't undo", first.undo(), NONE);
    }

    private static Scene fed(int bytes) {
        return Scene.ofNew().then(desk -> {
            for (int from = 0; from < bytes; from += 20) {
                desk.feed(BLANKS, BLANKS, BLANKS, BLANKS, BLANKS);
            }
            desk.end(bytes);
        });
    }

    private static long feedMarks(PriceDesk desk) {
        return desk.feed(MARKS, MARKS, MARKS, MARKS, MARKS);
    }

    private static void twentyBytes() {
        Checks.says("Twenty bytes come behind the tape");
        for (int ahead = 0; ahead <= 720; ahead++) {
            fed(ahead).answers("feed behind " + ahead, ahead + 20, TapeBoundsTest::feedMarks);
        }
        for (int ahead : new int[] {0, 1, 19, 20, 21, 699}) {
            fed(ahead).answers("the first byte is behind " + ahead, -1 - ahead, desk -> {
                feedMarks(desk);
                return desk.text();
            });
        }
        fed(20).answers("now(6)", 40, desk -> {
            feedMarks(desk);
            return desk.now(6);
        });
    }

    private static void highestFirst() {
        Checks.says("of each number the highest first");
        for (int place = 0; place < 20; place++) {
            for (int sign : new int[] {0, 1, 63, 127, 128, 255}) {
                int[] fed = {BLANKS, BLANKS, BLANKS, BLANKS, BLANKS};
                int shift = 24 - 8 * (place % 4);
                fed[place / 4] = fed[place / 4] & ~(255 << shift) | sign << shift;
                Scene.ofNew().answers("byte " + sign + " at " + place, -1 - place, desk -> {
                    desk.feed(fed[0], fed[1], fed[2], fed[3], fed[4]);
                    return desk.text();
                });
            }
        }
    }

    private static void noMoreThan740() {
        Checks.says("how many it has; NONE, and none come, if it would have more than 740.");
        fed(719).answers("to 739", 739, TapeBoundsTest::feedMarks);
        fed(720).answers("to 740", 740, TapeBoundsTest::feedMarks);
        fed(721).refuses("to 741", NONE, TapeBoundsTest::feedMarks);
        fed(722).refuses("to 742", NONE, TapeBoundsTest::feedMarks);
        fed(739).refuses("to 759", NONE, TapeBoundsTest::feedMarks);
        fed(740).refuses("to 760", NONE, TapeBoundsTest::feedMarks);
        Scene.ofNew().answers("37 times 20", 740, desk -> {
            int has = 0;
            for (int k = 0; k < 37; k++) {
                has = desk.feed(MIN, MAX, -1, 0, 1);
            }
            return has;
        });
    }

    private static void bytesOfARefusedFeed() {
        Scene scene = Scene.ofNew().then(desk -> Checks.tape(desk, "month 7;" + " ".repeat(722)));
        scene.refuses("a feed to 750", NONE, TapeBoundsTest::feedMarks);
        scene.answers("the bytes are as they were", 1, desk -> {
            feedMarks(desk);
            desk.end(700);
            return desk.text();
        });
        scene.answers("none came behind", 700, desk -> {
            feedMarks(desk);
            return -1 - desk.text();
        });
    }

    private static void firstBytesAlone() {
        Checks.says("The tape has its first n bytes alone: true");
        Scene scene = Scene.ofNew().then(desk -> Checks.tape(desk, "month 35;?"));
        for (int n = 0; n <= 10; n++) {
            int bytes = n;
            scene.answers("end(" + n + ")", 1, desk -> desk.end(bytes) ? 1 : 0);
            scene.answers("now(6) behind end(" + n + ")", n, desk -> {
                desk.end(bytes);
                return desk.now(6);
            });
        }
        int[] due = {0, -1, -1, -1, -1, -6, -7, -8, -9, 1, -10};
        for (int n = 0; n <= 10; n++) {
            int bytes = n;
            scene.answers("text() behind end(" + n + ")", due[n], desk -> {
                desk.end(bytes);
                return desk.text();
            });
        }
        scene.answers("NOW, by bytes that come behind the first alone", 34, desk -> {
            desk.end(7);
            Checks.tape(desk, "4;");
            desk.text();
            return desk.now(0);
        });
    }

    private static void notSoMany() {
        Checks.says("false, if it has not so many, or n is below 0.");
        for (int has : new int[] {0, 1, 20, 739, 740}) {
            fed(has).answers("end(" + has + ") of " + has, 1, desk -> desk.end(has) ? 1 : 0);
            fed(has).refuses("end(" + (has + 1) + ") of " + has, 0, desk -> desk.end(has + 1) ? 1 : 0);
            fed(has).refuses("end(MAX) of " + has, 0, desk -> desk.end(MAX) ? 1 : 0);
        }
    }

    private static void belowZero() {
        for (int n : new int[] {-1, -2, -20, MIN}) {
            fed(0).refuses("end(" + n + ") of none", 0, desk -> desk.end(n) ? 1 : 0);
            fed(20).refuses("end(" + n + ") of 20", 0, desk -> desk.end(n) ? 1 : 0);
        }
        fed(20).answers("end(0)", 1, desk -> desk.end(0) ? 1 : 0);
    }

    private static void emptyThen() {
        Checks.says("The tape (empty then, even with a FAULT) is a TEXT");
        for (String text : new String[] {"", " ", "month 3;", "month 3", "?", " ".repeat(740)}) {
            Scene.ofNew().answers("now(6) behind text() of " + text, 0, desk -> {
                Checks.tell(desk, text);
                return desk.now(6);
            });
            Scene.ofNew().answers("feed behind text() of " + text, 20, desk -> {
                Checks.tell(desk, text);
                return feedMarks(desk);
            });
        }
    }

    private static void anEmptyText() {
        Checks.says("(an empty one: nothing told): how many LINES");
        BUSY.answers("text() of an empty tape", 0, PriceDesk::text);
        Scene.ofNew().isLike("an empty text", BUSY.then(PriceDesk::text));
        Scene.ofNew().isLike("a text of blanks", BUSY.then(desk -> Checks.tell(desk, " \n\n ")));
        Scene.ofNew().isLike("a text that end(0) made empty", BUSY.then(desk -> {
            feedMarks(desk);
            desk.end(0);
            desk.text();
        }));
    }

    private static void allStays() {
        Checks.says("-1 less the place of a FAULT: all stays.");
        BUSY.refusesText("", "?", 1);
        BUSY.refusesText(" ", "?", 1);
        BUSY.refusesText("month ", "36;", 2);
        BUSY.refusesText("month 0;index a 1;index ", "a 2;", 3);
        BUSY.refusesText("month 0;index a 1;index b 1;index c 1;index d 1;index e 1;index f 1;", "index g 1;", 4);
        BUSY.refusesText("month 3;index a 9 8 7;index b 6;contract 9 = 999 + 1 b base ", "1 all 0 share 0;", 5);
        BUSY.refusesText("month 1;index a 9 8;contract 9 = 0 + 999 a ", "base 1 all 0 share 0;", 5);
        BUSY.refusesText("month 1;index a 9 8;contract 9 = 0 + 1000 a base 1 all 0 share 0", "", 1);
        BUSY.refusesText("month 1;" + " ".repeat(692), " ", 1);
    }

    private static void aNewText() {
        Checks.says("A new TEXT: no DELIVERIES, nothing can be undone.");
        for (String text : new String[] {"", "month 0;", "month 3;index z 9;contract 3 = 0 + 1000 z base 0 all 0 share 50;"}) {
            Scene anew = Scene.ofNew().then(desk -> Checks.tell(desk, text));
            anew.isLike("a second text", BUSY.then(desk -> Checks.tell(desk, text)));
            anew.isLike("a third text", BUSY.then(desk -> {
                Checks.tell(desk, "month 35;index q 3 4 5 6;index r 1;contract 3 = 0 + 500 r + 500 q base 0 beyond 9 share 5;");
                desk.deliver(0, 35, 9);
                desk.rebase(0, 3, 8);
                Checks.tell(desk, text);
            }));
            anew.refuses("undo()", NONE, PriceDesk::undo);
        }
        BUSY.then(desk -> Checks.tell(desk, "month 0;")).refuses("undo() behind a text", NONE, PriceDesk::undo);
    }

    /** As much as a text can tell and a desk can hold. */
    private static void tellAndDoMuch(PriceDesk desk) {
        StringBuilder text = new StringBuilder("month 34;");
        for (char name = 'a'; name <= 'f'; name++) {
            text.append("index ").append(name).append(" 7 8 9;");
        }
        for (int k = 0; k < 6; k++) {
            text.append("contract 9=500+90 a+90 b+90 c+90 d+90 e+50 f base 1 beyond 9 share 99;");
        }
        Checks.tell(desk, text.toString());
        for (int index = 0; index < 6; index++) {
            desk.rebase(index, 2, 50);
            desk.publish(index, 33, 60, true);
            desk.rebase(index, 33, 90);
            desk.publish(index, 34, 95, true);
            desk.rebase(index, 34, 98);
        }
        for (int k = 0; k < 30; k++) {
            desk.deliver(k % 6, k % 2 == 0 ? 34 : 3 + k % 7, 1 + k);
        }
        desk.close();
        desk.publish(3, 35, 97, false);
    }

    private static void whatTextsLeaveBehind() {
        Scene much = Scene.ofNew().then(TapeBoundsTest::tellAndDoMuch);
        int[] held = {35, 6, 6, 30, 15, 8, 0};
        for (int what = 0; what <= 6; what++) {
            int w = what;
            much.answers("much: now(" + w + ")", held[w], desk -> desk.now(w));
        }
        much.answers("much: a third rebasing", 98, desk -> desk.rebased(5, 2, 2));
        for (String text : new String[] {"", "month 0;", "month 5;index a 1;contract 4 = 1000 base 5 all 0 share 7;",
            "month 5;index b 1;index c 2 3;contract 4 = 0 + 1000 c base 0 all 0 share 7;contract 8 = 1000 base 0 all 0 share 7;"}) {
            Scene anew = Scene.ofNew().then(desk -> Checks.tell(desk, text));
            // one, two and three rich texts ahead, and faults in between
            anew.isLike("behind one", Scene.ofNew().then(TapeBoundsTest::tellAndDoMuch).then(desk -> Checks.tell(desk, text)));
            anew.isLike("behind two", Scene.ofNew().then(desk -> {
                tellAndDoMuch(desk);
                desk.text();
                Checks.tell(desk, text);
            }));
            anew.isLike("behind a fault", Scene.ofNew().then(desk -> {
                tellAndDoMuch(desk);
                Checks.tell(desk, "month 9;index a 5 6 7;contract 9 = 0 + 1000 a base 1 beyond 8 share 101;");
                Checks.tell(desk, text);
            }));
            Scene.Acts acts = desk -> {
                for (int index = 0; index < 2; index++) {
                    desk.publish(index, 4, 9, false);
                    desk.deliver(index, 5, 3);
                }
                desk.close();
            };
            anew.then(acts).isLike("acts behind two", Scene.ofNew().then(desk -> {
                tellAndDoMuch(desk);
                desk.text();
                Checks.tell(desk, text);
                acts.on(desk);
            }));
        }
    }

    private static void kindOfTheLatest() {
        Checks.says("The kind of the FAULT of the latest text(); 0 without one and ahead of any.");
        PriceDesk desk = new PriceDesk();
        String six = "month 0;index a 1;index b 1;index c 1;index d 1;index e 1;index f 1;";
        String[] texts = {"?", "month 36;", six + "index a", "month 0;index a 1;index a 1;",
            "month 0;contract 1 = 0 base 0 all 0 share 0;", "month 0;", "month", ""};
        int[] kinds = {1, 2, 4, 3, 5, 0, 1, 0};
        for (int k = 0; k < texts.length; k++) {
            Checks.tell(desk, texts[k]);
            Checks.due("fault() of " + texts[k], desk.fault(), kinds[k]);
            Checks.due("fault() again", desk.fault(), kinds[k]);
            feedMarks(desk);
            desk.close();
            desk.undo();
            desk.end(0);
            Checks.due("fault() behind other calls", desk.fault(), kinds[k]);
        }
    }

    private static void zeroAheadOfAny() {
        Scene scene = fed(0).then(TapeBoundsTest::feedMarks);
        scene.answers("fault() of a tape that is not read", 0, PriceDesk::fault);
        scene.leavesAll("fault()", PriceDesk::fault);
    }

    private static void nowWhats() {
        Checks.says("0 NOW, 1 indexes, 2 contracts, 3 DELIVERIES, 4 those that are SETTLED, 5 what can be undone, "
            + "6 bytes of the tape. NONE for another what.");
        int[] due = {4, 1, 1, 2, 1, 6, 20};
        Scene scene = BUSY.then(TapeBoundsTest::feedMarks);
        for (int what = 0; what <= 6; what++) {
            int w = what;
            scene.answers("now(" + what + ")", due[what], desk -> desk.now(w));
            scene.leavesAll("now(" + what + ")", desk -> desk.now(w));
        }
        for (int what : new int[] {-1, 7, 8, -2, MIN, MAX}) {
            scene.refuses("now(" + what + ")", NONE, desk -> desk.now(what));
        }
    }

    private static void fiveHundredAndTwelveCalls() {
        Checks.says("An object is used for at most 512 calls after it has been made");
        PriceDesk desk = new PriceDesk();
        for (int call = 1; call <= 511; call++) {
            desk.feed(MARKS, MARKS, MARKS, MARKS, MARKS);
        }
        Checks.due("the 512th call", desk.now(6), 740);
        PriceDesk other = new PriceDesk();
        for (int call = 1; call <= 510; call += 2) {
            other.close();
            other.undo();
        }
        Checks.due("the 511th call", other.close(), 0);
        Checks.due("the 512th call", other.undo(), 0);
    }
}
