/** The sentences of promises 5 to 9, 16, 26 to 29, 32 and 33 that name a boundary. */
public final class ChangeBoundaryTest {
    private static final Checker C = new Checker("ChangeBoundaryTest");
    private static final long NO = KeptWays.NO_LENGTH;
    private static final int BILLION = 1_000_000_000;
    private static final int[] NO_ROADS = {-1, 36, 37, 64, 100, Integer.MAX_VALUE, Integer.MIN_VALUE};

    private ChangeBoundaryTest() {
    }

    public static void main(String[] args) {
        Sentences.runAll(ChangeBoundaryTest.class, C);
    }

    private static KeptWays far() {
        return Texts.withNet("towns 4;road 0 1 1000000000;road 1 2 1000000000;road 2 3 5");
    }

    @Says(promise = 5, value = "LAY: the ROAD; -5: there are 36 (ahead of -3, -4); -3; -4")
    private static void layInAFullNet() {
        KeptWays x = Texts.withNet("towns 4;road 0 1 1000000000;road 1 2 1000000000");
        C.due("a ring", x.lay(2, 0, -BILLION), 2);
        C.due("a ring of 0", x.lay(1, 0, -BILLION), -3);
        C.due("too far", x.lay(2, 3, BILLION), -4);
        for (int r = 3; r < 35; r++) {
            C.due("road", x.lay(0, 1, BILLION), r);
        }
        C.due("a ring, there are 35", x.lay(1, 0, -BILLION), -3);
        C.due("too far, there are 35", x.lay(2, 3, BILLION), -4);
        C.due("the last", x.lay(0, 1, BILLION), 35);
        C.due("a ring, there are 36", x.lay(1, 0, -BILLION), -5);
        C.due("too far, there are 36", x.lay(2, 3, BILLION), -5);
        C.due("as good as any", x.lay(0, 1, BILLION), -5);
        x.close(35);
        C.due("a closed one is one of them", x.lay(0, 1, BILLION), -5);
        C.due("36", x.count(1), 36);
    }

    @Says(promise = 5, value = "NONE: no such ones (a ROAD from a TOWN to itself, too).")
    private static void layNone() {
        KeptWays x = Texts.withNet("towns 3");
        int[][] none = {{3, 0, 1}, {-1, 0, 1}, {0, 3, 1}, {0, -1, 1}, {0, 0, 1}, {2, 2, 1}, {0, 1, BILLION + 1},
            {0, 1, -BILLION - 1}, {3, 3, 1}, {12, 0, 1}, {Integer.MIN_VALUE, Integer.MAX_VALUE, 0}};
        for (int[] a : none) {
            C.due("lay(" + a[0] + ", " + a[1] + ", " + a[2] + ")", x.lay(a[0], a[1], a[2]), -1);
        }
        C.due("no road", x.count(1), 0);
        C.due("no turn", x.count(5), 0);
        C.due("the first is 0", x.lay(2, 0, 1), 0);
    }

    @Says(promise = 6, value = "LENGTH: how many are TOUCHED; -2: it is so long; -3; -4; NONE: no such ones.")
    private static void length() {
        KeptWays x = Texts.withNet("towns 3;road 0 1 5;road 1 0 5;road 1 2 0");
        C.due("nobody", x.length(1, 6), 0);
        C.due("so long", x.length(1, 6), -2);
        C.due("two", x.length(0, 6), 2);
        C.due("as before", x.length(0, 5), 2);
        C.due("a ring of 0", x.length(1, -5), -3);
        C.due("a ring of 1", x.length(1, -4), 0);
        for (int r : NO_ROADS) {
            C.due("length(" + r + ", 5)", x.length(r, 5), -1);
        }
        C.due("a road that is not laid yet", x.length(3, 5), -1);
        C.due("too long", x.length(0, BILLION + 1), -1);
        C.due("too short", x.length(0, -BILLION - 1), -1);
        KeptWays y = far();
        C.due("too far", y.length(2, 147483648), -4);
        C.due("just not", y.length(2, 147483647), 1);
        C.due("touched", y.touched(0), 3);
    }

    @Says(promise = 7, value = "CLOSE: likewise; -2: it is CLOSED.")
    private static void close() {
        KeptWays x = Texts.withNet("towns 3;road 0 1 5;road 0 1 5;road 1 2 0");
        C.due("one of two", x.close(0), 0);
        C.due("it is closed", x.close(0), -2);
        C.due("the other one", x.close(1), 2);
        C.due("it is closed", x.close(1), -2);
        C.due("turn", x.count(5), 2);
        for (int r : NO_ROADS) {
            C.due("close(" + r + ")", x.close(r), -1);
        }
        C.due("a road that is not laid yet", x.close(3), -1);
        KeptWays y = Texts.withNet("towns 4;road 0 3 1;road 0 1 1000000000;road 1 2 1000000000;road 2 3 147483648");
        C.due("too far", y.close(0), -4);
        C.due("not closed", y.close(1), 2);
    }

    @Says(promise = 8, value = "OPEN: likewise; -2: it is OPEN.")
    private static void open() {
        KeptWays x = Texts.withNet("towns 3;road 0 1 5;road 1 0 5;road 1 2 0");
        C.due("it is open", x.open(0), -2);
        C.due("turn", x.count(5), 0);
        x.close(0);
        C.due("two", x.open(0), 2);
        C.due("it is open", x.open(0), -2);
        x.close(1);
        x.length(1, -5);
        C.due("a ring of 0", x.open(1), -3);
        x.length(1, -4);
        C.due("a ring of 1", x.open(1), 0);
        for (int r : NO_ROADS) {
            C.due("open(" + r + ")", x.open(r), -1);
        }
        C.due("a road that is not laid yet", x.open(3), -1);
        KeptWays y = far();
        y.close(2);
        y.length(2, 147483648);
        C.due("too far", y.open(2), -4);
        C.due("closed still", y.close(2), -2);
    }

    @Says(promise = 9, value = "ORIGIN: likewise; -2: it is that; -4; NONE: no such TOWN.")
    private static void origin() {
        KeptWays x = Texts.withNet("towns 3;road 0 1 0;road 1 0 1");
        C.due("it is that", x.origin(0), -2);
        C.due("0 and 1: 0 is at 1 then, 1 at 0 still", x.origin(1), 1);
        C.due("who", x.touched(0), 0);
        C.due("it is that", x.origin(1), -2);
        C.due("the last", x.origin(2), 3);
        for (int t : new int[] {3, -1, 12, 32, Integer.MAX_VALUE, Integer.MIN_VALUE}) {
            C.due("origin(" + t + ")", x.origin(t), -1);
        }
        C.due("turn", x.count(5), 2);
        KeptWays y = Texts.withNet("towns 4;road 1 2 1000000000;road 2 3 1000000000;road 3 0 147483648");
        C.due("too far", y.origin(1), -4);
        C.due("it is that still", y.origin(0), -2);
    }

    @Says(promise = 16, value = "The i-th that is TOUCHED; -4: not so many; NONE: i below 0.")
    private static void touched() {
        KeptWays x = Texts.withNet("towns 12");
        C.due("nobody", x.touched(0), -4);
        for (int t = 0; t < 11; t++) {
            x.lay(11, t, 1);
        }
        C.due("all", x.origin(11), 12);
        C.due("the first", x.touched(0), 11);
        C.due("the last", x.touched(11), 10);
        for (int i : new int[] {12, 13, 100, Integer.MAX_VALUE}) {
            C.due("touched(" + i + ")", x.touched(i), -4);
        }
        for (int i : new int[] {-1, -12, Integer.MIN_VALUE}) {
            C.due("touched(" + i + ")", x.touched(i), -1);
        }
        C.due("all again", x.origin(0), 12);
        C.due("0 itself is first", x.touched(0), 0);
        C.due("a road more, which touches one", x.lay(0, 5, 5), 11);
        C.due("one", x.touched(0), 5);
        C.due("what was behind it is gone", x.touched(1), -4);
    }

    @Says("WATCHES: of a TOWN a LIMIT (LENGTHS); it is BEYOND, if its DISTANCE is above that, or there is none.")
    private static void beyond() {
        KeptWays x = Texts.withNet("towns 4;road 0 1 1000000000;road 1 2 1000000000");
        C.due("none", x.watch(3, BILLION), 1);
        C.due("as far", x.watch(1, BILLION), 0);
        C.due("above", x.watch(1, BILLION - 1), 1);
        C.due("above all limits", x.watch(2, BILLION), 1);
        C.due("beyond", x.count(10), 14);
        x.length(0, -BILLION);
        x.length(1, -BILLION);
        C.due("as far as the least limit", x.watch(1, -BILLION), 0);
        C.due("below all limits", x.watch(2, -BILLION), 0);
        C.due("beyond", x.count(10), 8);
        x.length(0, -BILLION + 1);
        C.due("1 is above by one", x.count(10), 10);
        C.due("the origin, at 0", x.watch(0, 0), 0);
        C.due("the origin, above -1", x.watch(0, -1), 1);
    }

    @Says(promise = 26, value = "WATCH of a TOWN with a LIMIT: whether it is BEYOND (1, 0); NONE: no such ones.")
    private static void watchNone() {
        KeptWays x = Texts.withNet("towns 12;road 0 11 5");
        C.due("the last town", x.watch(11, 5), 0);
        C.due("its bit", x.count(9), 1 << 11);
        for (int t : new int[] {12, -1, 32, 43, Integer.MAX_VALUE, Integer.MIN_VALUE}) {
            C.due("watch(" + t + ", 5)", x.watch(t, 5), -1);
        }
        for (int l : new int[] {BILLION + 1, -BILLION - 1, Integer.MAX_VALUE, Integer.MIN_VALUE}) {
            C.due("watch(11, " + l + ")", x.watch(11, l), -1);
        }
        C.due("the limit stays", x.town(11, 10), 5);
        C.due("the bits stay", x.count(9), 1 << 11);
        C.due("again, with another limit", x.watch(11, 4), 1);
        C.due("limit", x.town(11, 10), 4);
    }

    @Says(promise = 27, value = "A WATCH is forgotten: true; false: there is none.")
    private static void forget() {
        KeptWays x = Texts.withNet("towns 12;road 0 11 5");
        C.due("there is none", x.forget(11), false);
        x.watch(11, 5);
        x.watch(10, 5);
        C.due("forgotten", x.forget(11), true);
        C.due("there is none any more", x.forget(11), false);
        C.due("the other one stays", x.count(9), 1 << 10);
        for (int t : new int[] {12, -1, 32, 42, Integer.MAX_VALUE, Integer.MIN_VALUE}) {
            C.due("forget(" + t + ")", x.forget(t), false);
        }
        C.due("no limit", x.town(11, 10), NO);
        x.length(0, 6);
        C.due("no event of a forgotten one", x.count(8), 0);
    }

    private static void event(KeptWays x, int i, long turn, long town, long beyond, long distance) {
        C.due("event " + i + ": turn", x.event(i, 0), turn);
        C.due("event " + i + ": town", x.event(i, 1), town);
        C.due("event " + i + ": beyond", x.event(i, 2), beyond);
        C.due("event " + i + ": distance", x.event(i, 3), distance);
    }

    @Says("EVENTS, numbered, 100 at most (more are not written)")
    private static void eventsAtMost() {
        KeptWays x = Texts.withNet("towns 12");
        for (int t = 1; t < 12; t++) {
            x.lay(t == 1 ? 0 : 1, t, t == 1 ? 5 : 0);
            x.watch(t, 5);
        }
        for (int i = 0; i < 9; i++) {
            C.due("all eleven", x.length(0, i % 2 == 0 ? 6 : 5), 11);
        }
        C.due("99", x.count(8), 99);
        event(x, 98, 20, 11, 1, 6);
        C.due("eleven more", x.length(0, 5), 11);
        C.due("100", x.count(8), 100);
        event(x, 99, 21, 1, 0, 5);
        C.due("no event 100", x.event(100, 0), NO);
        x.length(0, 6);
        C.due("100 still", x.count(8), 100);
        event(x, 99, 21, 1, 0, 5);
        C.due("they are beyond all the same", x.count(10), 0b1111_1111_1110);
        C.due("the change was done", x.count(5), 22);
    }

    @Says("behind each CHANGE that was done, of WATCHES by TOWNS that are not as they were: TURN, TOWN, whether BEYOND, DISTANCE.")
    private static void eventsOfAChange() {
        KeptWays x = Texts.withNet("towns 4;road 0 3 5;road 3 1 1;road 1 2 1");
        x.watch(3, 5);
        x.watch(1, 7);
        x.watch(2, 7);
        C.due("refused", x.lay(3, 0, -5), -3);
        C.due("aside", x.ifLength(0, 6), 3);
        C.due("no event", x.count(8), 0);
        x.length(0, 6);
        C.due("1 is as it was", x.count(8), 2);
        event(x, 0, 1, 2, 1, 8);
        event(x, 1, 1, 3, 1, 6);
        x.length(0, 7);
        C.due("2 and 3 are beyond still, though farther", x.count(8), 3);
        event(x, 2, 2, 1, 1, 8);
        x.close(0);
        C.due("some to none: beyond still", x.count(8), 3);
        x.length(0, 5);
        C.due("closed: as they were", x.count(8), 3);
        x.open(0);
        C.due("none to some: all three", x.count(8), 6);
        event(x, 3, 5, 1, 0, 6);
        event(x, 4, 5, 2, 0, 7);
        event(x, 5, 5, 3, 0, 5);
        x.origin(1);
        C.due("by the origin: 3 has none then", x.count(8), 7);
        event(x, 6, 6, 3, 1, NO);
        x.watch(0, 0);
        x.origin(0);
        C.due("of town 0, too, ahead of 3", x.count(8), 9);
        event(x, 7, 7, 0, 0, 0);
        event(x, 8, 7, 3, 0, 5);
    }

    @Says("(One that is told begins as it is then.)")
    private static void watchesBegin() {
        KeptWays x = Texts.withNet("towns 3;road 0 1 5");
        C.due("beyond at once", x.watch(1, 4), 1);
        C.due("no event by it", x.count(8), 0);
        x.length(0, 6);
        C.due("beyond still", x.count(8), 0);
        C.due("told again, not beyond", x.watch(1, 6), 0);
        C.due("no event by it", x.count(8), 0);
        x.length(0, 5);
        C.due("not beyond still", x.count(8), 0);
        C.due("told again, beyond", x.watch(1, 4), 1);
        x.length(0, 4);
        C.due("no more", x.count(8), 1);
        event(x, 0, 3, 1, 0, 4);
        x.forget(1);
        x.length(0, 50);
        C.due("forgotten", x.count(8), 1);
        C.due("told anew, beyond", x.watch(1, 4), 1);
        x.length(0, 51);
        C.due("beyond still", x.count(8), 1);
    }

    @Says(promise = 28, value = "Of EVENT i, what 0 TURN, 1 TOWN, 2 whether BEYOND (1, 0), 3 DISTANCE (NO_LENGTH); NO_LENGTH: no such ones.")
    private static void noSuchEvent() {
        KeptWays x = Texts.withNet("towns 3;road 0 1 5");
        C.due("none yet", x.event(0, 0), NO);
        x.watch(1, 5);
        x.length(0, 6);
        x.length(0, 5);
        x.close(0);
        event(x, 0, 1, 1, 1, 6);
        event(x, 1, 2, 1, 0, 5);
        event(x, 2, 3, 1, 1, NO);
        for (int i : new int[] {3, -1, 99, 100, Integer.MAX_VALUE, Integer.MIN_VALUE}) {
            C.due("event(" + i + ", 0)", x.event(i, 0), NO);
        }
        for (int what : new int[] {4, -1, Integer.MAX_VALUE, Integer.MIN_VALUE}) {
            C.due("event(0, " + what + ")", x.event(0, what), NO);
        }
    }

    @Says(promise = 29, value = "How many would be TOUCHED by a LENGTH of a ROAD that is OPEN, tried aside; as length() else; -6: it is CLOSED.")
    private static void ifLength() {
        C.same("all, behind what was tried,", Answers.all(() -> tried(watched())), Answers.all(() -> watched()));
        KeptWays x = tried(watched());
        x.ifLength(0, 50);
        C.due("a change behind it does not know of it", x.origin(1), 3);
        C.due("the length", x.road(0, 2), 5);
        C.due("0 alone, from another origin", x.ifLength(1, 6), 1);
        C.due("back", x.origin(0), 3);
        C.due("the distance", x.town(1, 0), 5);
        x.close(1);
        C.due("closed", x.ifLength(1, 6), -6);
        C.due("closed and so long", x.ifLength(1, 5), -6);
        C.due("closed, would be a ring", x.ifLength(1, -5), -6);
        C.due("closed, no length", x.ifLength(1, BILLION + 1), -1);
        KeptWays y = far();
        C.due("too far", y.ifLength(2, 147483648), -4);
        C.due("just not", y.ifLength(2, 147483647), 1);
        y.close(2);
        C.due("closed, would be too far", y.ifLength(2, 147483648), -6);
    }

    private static KeptWays watched() {
        KeptWays x = Texts.withNet("towns 3;road 0 1 5;road 1 0 5;road 1 2 0");
        x.watch(2, 5);
        return x;
    }

    private static KeptWays tried(KeptWays x) {
        C.due("two", x.ifLength(0, 6), 2);
        C.due("nobody", x.ifLength(1, 6), 0);
        C.due("so long", x.ifLength(0, 5), -2);
        C.due("a ring of 0", x.ifLength(1, -5), -3);
        C.due("a ring of 1", x.ifLength(1, -4), 0);
        for (int r : NO_ROADS) {
            C.due("ifLength(" + r + ", 6)", x.ifLength(r, 6), -1);
        }
        C.due("a road that is not laid yet", x.ifLength(3, 6), -1);
        C.due("too long", x.ifLength(0, BILLION + 1), -1);
        C.due("too short", x.ifLength(0, -BILLION - 1), -1);
        return x;
    }

    @Says("KEPT are ROADS, ORIGIN, TOUCHED, TURN, WATCHES, EVENTS, X; UNDONE: as it was KEPT last")
    private static void undone() {
        String kept = Answers.all(() -> justKept());
        C.holds("other answers", !Answers.all(() -> changed(justKept())).equals(kept));
        C.same("all, behind undo,", Answers.all(() -> changedAndUndone(justKept())), kept);
        C.same("all, undone again,", Answers.all(() -> changedAndUndone(changedAndUndone(justKept()))), kept);
        C.same("all, undone at once,", Answers.all(() -> undoneAtOnce(changedAndUndone(justKept()))), kept);
        C.same("as it was kept last", Answers.all(() -> changedAndUndone(keptLater())), Answers.all(() -> keptLater()));
        KeptWays x = changedAndUndone(keptLater());
        x.watch(1, 7);
        x.length(0, 8);
        event(x, 1, 4, 1, 1, 8);
    }

    private static KeptWays justKept() {
        KeptWays x = Texts.withNet("towns 4;road 0 1 5;road 1 2 3;road 2 3 -2");
        x.watch(2, 8);
        x.watch(0, -1);
        x.close(2);
        x.length(0, 6);
        x.seed(9);
        x.keep();
        return x;
    }

    private static KeptWays keptLater() {
        KeptWays x = justKept();
        x.length(0, 7);
        x.keep();
        return x;
    }

    private static KeptWays changedAndUndone(KeptWays x) {
        return undoneAtOnce(changed(x));
    }

    private static KeptWays undoneAtOnce(KeptWays x) {
        C.due("undone", x.undo(), true);
        return x;
    }

    private static KeptWays changed(KeptWays x) {
        x.lay(0, 3, 1);
        x.length(1, -1);
        x.length(1, 20);
        x.close(0);
        x.open(2);
        x.origin(1);
        x.watch(1, 1);
        x.watch(2, -5);
        x.forget(0);
        x.seed(10);
        return x;
    }

    @Says("(not behind another NET: then nothing is KEPT)")
    private static void nothingKeptBehindANet() {
        KeptWays x = Texts.withNet("towns 3;road 0 1 5");
        x.keep();
        C.due("a net with a fault", Texts.net(x, "towns 4;"), -1008);
        C.due("kept still", x.undo(), true);
        C.due("a net with a ring", Texts.net(x, "road 0 1 5;road 1 0 -5"), -3);
        C.due("kept still", x.undo(), true);
        C.due("another net", Texts.net(x, "towns 3;road 0 1 6"), 2);
        C.due("nothing is kept", x.undo(), false);
        C.due("the net stays", x.road(0, 2), 6);
        C.due("kept anew", x.keep(), 0);
        C.due("undone", x.undo(), true);
    }

    @Says("All memory is the keeper's own.")
    private static void objectsApart() {
        C.same("the other one", Answers.all(() -> besideAnother()), Answers.all(() -> Texts.withNet("towns 3;road 0 1 5")));
        C.due("nothing was kept there", besideAnother().undo(), false);
    }

    /** One of two that are alike, the other of which has changed since. */
    private static KeptWays besideAnother() {
        KeptWays x = Texts.withNet("towns 3;road 0 1 5");
        KeptWays y = Texts.withNet("towns 3;road 0 1 5");
        x.length(0, 6);
        x.watch(1, 3);
        x.seed(4);
        x.keep();
        Texts.feed(x, "some");
        return y;
    }

    @Says(promise = 32, value = "KEPT: TURN.")
    private static void keep() {
        KeptWays x = new KeptWays();
        C.due("of a new object", x.keep(), 0);
        x.lay(0, 1, 5);
        C.due("behind a change", x.keep(), 1);
        x.close(0);
        x.open(0);
        x.undo();
        C.due("undone: as it was", x.keep(), 1);
    }

    @Says(promise = 33, value = "UNDONE: true; false: nothing was KEPT.")
    private static void undo() {
        KeptWays x = new KeptWays();
        C.due("nothing was kept", x.undo(), false);
        x.lay(0, 1, 5);
        C.due("nothing was kept", x.undo(), false);
        C.due("the road stays", x.count(1), 1);
        x.keep();
        x.lay(0, 1, 6);
        x.feed(0, 0, 0, 0, 0);
        C.due("undone", x.undo(), true);
        C.due("one road", x.count(1), 1);
        C.due("the tape is not kept", x.count(12), 20);
    }
}
