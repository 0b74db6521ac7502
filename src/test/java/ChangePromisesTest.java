/** Promises 5 to 9, 16, 26 to 29, 32 and 33: changes, who is touched, watches, events, kept and undone. */
public final class ChangePromisesTest {
    private static final Checker C = new Checker("ChangePromisesTest");
    private static final long NO = KeptWays.NO_LENGTH;
    private static final int BILLION = 1_000_000_000;

    private ChangePromisesTest() {
    }

    public static void main(String[] args) {
        lay();
        layRefused();
        length();
        lengthOfAClosedRoad();
        close();
        open();
        origin();
        touchedInOrder();
        refusedChangesNothing();
        watch();
        forget();
        events();
        eventsTogether();
        eventsAtMost();
        ifLength();
        keepAndUndo();
        undoAndEvents();
        C.end();
    }

    private static void lay() {
        KeptWays x = Texts.withNet("towns 3");
        C.due("first", x.lay(0, 1, 5), 0);
        C.due("second, of the same towns", x.lay(0, 1, 5), 1);
        C.due("touched by the second", x.count(4), 0);
        C.due("third", x.lay(1, 2, -BILLION), 2);
        C.due("touched", x.count(4), 1);
        C.due("who", x.touched(0), 2);
        C.due("turn", x.count(5), 3);
        C.due("open", x.road(2, 3), 1);
        C.due("distance", x.town(2, 0), 5 - BILLION);
    }

    private static void layRefused() {
        KeptWays x = Texts.withNet("towns 4;road 0 1 1000000000;road 1 2 1000000000");
        C.due("no from", x.lay(4, 0, 1), -1);
        C.due("no from", x.lay(-1, 0, 1), -1);
        C.due("no to", x.lay(0, 4, 1), -1);
        C.due("no to", x.lay(0, Integer.MIN_VALUE, 1), -1);
        C.due("to itself", x.lay(2, 2, 1), -1);
        C.due("too long", x.lay(0, 1, BILLION + 1), -1);
        C.due("too short", x.lay(0, 1, -BILLION - 1), -1);
        C.due("ring of 0", x.lay(1, 0, -BILLION), -3);
        C.due("ring of 1", x.lay(1, 0, -BILLION + 1), 2);
        C.due("too far", x.lay(2, 3, 147483648), -4);
        C.due("just not too far", x.lay(2, 3, 147483647), 3);
        C.due("ring ahead of too far", x.lay(1, 0, -BILLION), -3);
        for (int i = 4; i < 36; i++) {
            C.due("road " + i, x.lay(0, 1, BILLION), i);
        }
        C.due("there are 36", x.lay(0, 1, BILLION), -5);
        C.due("-5 ahead of -3", x.lay(1, 0, -BILLION), -5);
        C.due("NONE ahead of -5", x.lay(1, 1, 5), -1);
        C.due("NONE ahead of -5", x.lay(1, 0, BILLION + 1), -1);
        C.due("turn", x.count(5), 34);
    }

    private static void length() {
        KeptWays x = Texts.withNet("towns 4;road 0 1 5;road 1 2 3;road 0 2 9;road 2 3 -2;road 3 1 4");
        C.due("a road not tight longer", x.length(2, 10), 0);
        C.due("turn", x.count(5), 1);
        C.due("so long", x.length(2, 10), -2);
        C.due("three are touched", x.length(0, 6), 3);
        C.due("by their distances: 1 at 6", x.touched(0), 1);
        C.due("3 at 7", x.touched(1), 3);
        C.due("2 at 9", x.touched(2), 2);
        C.due("not so many", x.touched(3), -4);
        C.due("ring of 0", x.length(1, -2), -3);
        C.due("ring of 1", x.length(1, -1), 2);
        C.due("no road", x.length(5, 1), -1);
        C.due("no road", x.length(-1, 1), -1);
        C.due("too long", x.length(0, BILLION + 1), -1);
        C.due("too short", x.length(0, -BILLION - 1), -1);
        KeptWays y = Texts.withNet("towns 4;road 0 1 1000000000;road 1 2 1000000000;road 2 3 7");
        C.due("too far", y.length(2, 147483648), -4);
        C.due("just not", y.length(2, 147483647), 1);
    }

    private static void lengthOfAClosedRoad() {
        KeptWays x = Texts.withNet("road 0 1 5;road 1 0 5");
        C.due("closed", x.close(1), 0);
        C.due("any length", x.length(1, -BILLION), 0);
        C.due("is a change", x.count(5), 2);
        C.due("-2 for closed ones, too", x.length(1, -BILLION), -2);
        C.due("cannot be opened", x.open(1), -3);
        C.due("still not", x.road(1, 3), 0);
        C.due("longer", x.length(1, -4), 0);
        C.due("now it can", x.open(1), 0);
    }

    private static void close() {
        KeptWays x = Texts.withNet("towns 3;road 0 1 5;road 0 1 7;road 1 2 1");
        C.due("close", x.close(0), 2);
        C.due("distance", x.town(2, 0), 8);
        C.due("closed already", x.close(0), -2);
        C.due("close the other", x.close(1), 2);
        C.due("none now", x.town(1, 0), NO);
        C.due("without: by numbers", x.touched(0) * 10 + x.touched(1), 12);
        C.due("no road", x.close(3), -1);
        C.due("no road", x.close(-1), -1);
        C.due("turn", x.count(5), 2);
        KeptWays y = Texts.withNet("towns 4;road 0 3 1;road 0 1 1000000000;road 1 2 1000000000;road 2 3 1000000000");
        C.due("too far by closing", y.close(0), -4);
        C.due("open still", y.road(0, 3), 1);
    }

    private static void open() {
        KeptWays x = Texts.withNet("towns 3;road 0 1 5;road 1 2 1;road 2 0 -5");
        C.due("open already", x.open(0), -2);
        C.due("close", x.close(0), 2);
        C.due("shorter while closed", x.length(0, 4), 0);
        C.due("a ring of 0 now", x.open(0), -3);
        C.due("as before", x.length(0, 5), 0);
        C.due("opened", x.open(0), 2);
        C.due("some again", x.town(2, 0), 6);
        C.due("no road", x.open(3), -1);
        C.due("no road", x.open(-1), -1);
        KeptWays y = Texts.withNet("towns 4;road 0 1 1000000000;road 1 2 1000000000");
        y.lay(2, 3, 1);
        y.close(2);
        y.length(2, BILLION);
        C.due("too far by opening", y.open(2), -4);
    }

    private static void origin() {
        KeptWays x = Texts.withNet("towns 4;road 0 1 5;road 1 2 3;road 2 1 2");
        C.due("it is that", x.origin(0), -2);
        C.due("no town", x.origin(4), -1);
        C.due("no town", x.origin(-1), -1);
        C.due("three others: none to 0, 5 to 0, 8 to 3", x.origin(1), 3);
        C.due("order", x.touched(0) * 100 + x.touched(1) * 10 + x.touched(2), 120);
        C.due("origin", x.count(3), 1);
        C.due("distance of 0", x.town(0, 0), NO);
        C.due("a town with no road", x.origin(3), 3);
        C.due("order", x.touched(0) * 100 + x.touched(1) * 10 + x.touched(2), 312);
        C.due("turn", x.count(5), 2);
        KeptWays y = Texts.withNet("towns 5;road 1 2 1000000000;road 2 3 1000000000;road 3 4 1000000000");
        C.due("too far from 1", y.origin(1), -4);
        C.due("not from 2", y.origin(2), 4);
        KeptWays z = Texts.withNet("towns 5;road 1 2 1000000000;road 2 3 1000000000;road 3 0 1000000000");
        C.due("0 too far from 1", z.origin(1), -4);
    }

    private static void touchedInOrder() {
        KeptWays x = Texts.withNet("towns 7;road 0 6 1;road 6 1 9;road 6 2 4;road 6 3 9;road 6 4 -3;road 3 5 1");
        C.due("all but 0", x.length(0, 2), 6);
        int[] due = {4, 6, 2, 1, 3, 5};
        for (int i = 0; i < 6; i++) {
            C.due("touched(" + i + ")", x.touched(i), due[i]);
        }
        C.due("not so many", x.touched(6), -4);
        C.due("not so many", x.touched(Integer.MAX_VALUE), -4);
        C.due("below 0", x.touched(-1), -1);
        C.due("some to none, with others", x.close(3), 2);
        C.due("by numbers", x.touched(0) * 10 + x.touched(1), 35);
        C.due("a change that touches nobody", x.lay(5, 0, 9), 6);
        C.due("nobody", x.touched(0), -4);
    }

    private static void refusedChangesNothing() {
        KeptWays x = Texts.withNet("towns 3;road 0 1 5;road 1 2 3");
        x.watch(2, 7);
        x.length(1, 4);
        C.due("ring", x.lay(2, 0, -9), -3);
        C.due("so long", x.length(1, 4), -2);
        C.due("open", x.open(0), -2);
        C.due("roads", x.count(1), 2);
        C.due("turn", x.count(5), 1);
        C.due("touched stays", x.touched(0), 2);
        C.due("events stay", x.count(8), 0);
        C.due("distance stays", x.town(2, 0), 9);
    }

    private static void watch() {
        KeptWays x = Texts.withNet("towns 3;road 0 1 5");
        C.due("not above", x.watch(1, 5), 0);
        C.due("above", x.watch(1, 4), 1);
        C.due("limit", x.town(1, 10), 4);
        C.due("none is beyond", x.watch(2, BILLION), 1);
        C.due("of origin", x.watch(0, 0), 0);
        C.due("of origin", x.watch(0, -1), 1);
        C.due("watches", x.count(9), 7);
        C.due("beyond", x.count(10), 7);
        C.due("again", x.watch(1, BILLION), 0);
        C.due("beyond", x.count(10), 5);
        C.due("no event by telling", x.count(8), 0);
        C.due("no turn by telling", x.count(5), 0);
        C.due("no town", x.watch(3, 0), -1);
        C.due("no town", x.watch(-1, 0), -1);
        C.due("no limit", x.watch(0, BILLION + 1), -1);
        C.due("no limit", x.watch(0, -BILLION - 1), -1);
        C.due("least limit", x.watch(0, -BILLION), 1);
        C.due("limit stays", x.town(0, 10), -BILLION);
        C.due("no watch", Texts.withNet("towns 3").town(1, 10), NO);
    }

    private static void forget() {
        KeptWays x = Texts.withNet("towns 3;road 0 1 5");
        C.due("there is none", x.forget(1), false);
        x.watch(1, 3);
        C.due("forgotten", x.forget(1), true);
        C.due("gone", x.forget(1), false);
        C.due("watches", x.count(9), 0);
        C.due("beyond", x.count(10), 0);
        C.due("limit", x.town(1, 10), NO);
        C.due("no town", x.forget(3), false);
        C.due("no town", x.forget(-1), false);
        C.due("no town", x.forget(33), false);
        x.length(0, 1);
        C.due("no event", x.count(8), 0);
    }

    private static void events() {
        KeptWays x = Texts.withNet("towns 3;road 0 1 5;road 1 2 3");
        x.watch(2, 8);
        x.length(0, 6);
        event(x, 0, 1, 2, 1, 9);
        x.length(0, 7);
        C.due("beyond still: no event", x.count(8), 1);
        x.length(0, 2);
        event(x, 1, 3, 2, 0, 5);
        x.close(1);
        event(x, 2, 4, 2, 1, NO);
        C.due("events", x.count(8), 3);
        x.watch(2, 8);
        x.open(1);
        event(x, 3, 5, 2, 0, 5);
        x.watch(2, 4);
        x.length(1, 2);
        event(x, 4, 6, 2, 0, 4);
        x.watch(2, 3);
        x.length(1, 1);
        event(x, 5, 7, 2, 0, 3);
        x.forget(2);
        x.length(1, 100);
        x.watch(2, 50);
        x.length(1, 101);
        C.due("one told begins as it is", x.count(8), 6);
        C.due("no event", x.event(6, 0), NO);
        C.due("no event", x.event(-1, 0), NO);
        C.due("no what", x.event(0, 4), NO);
        C.due("no what", x.event(0, -1), NO);
        C.due("no event", x.event(Integer.MAX_VALUE, 3), NO);
    }

    private static void event(KeptWays x, int i, long turn, long town, long beyond, long distance) {
        C.due("event " + i + ": turn", x.event(i, 0), turn);
        C.due("event " + i + ": town", x.event(i, 1), town);
        C.due("event " + i + ": beyond", x.event(i, 2), beyond);
        C.due("event " + i + ": distance", x.event(i, 3), distance);
    }

    private static void eventsTogether() {
        KeptWays x = Texts.withNet("towns 4;road 0 3 5;road 3 1 -3;road 1 2 6");
        x.watch(2, 8);
        x.watch(3, 6);
        x.watch(1, 3);
        x.watch(0, 0);
        x.origin(3);
        C.due("only 0 is not as it was", x.count(8), 1);
        event(x, 0, 1, 0, 1, NO);
        x.origin(0);
        event(x, 1, 2, 0, 0, 0);
        x.length(0, 9);
        event(x, 2, 3, 1, 1, 6);
        event(x, 3, 3, 2, 1, 12);
        event(x, 4, 3, 3, 1, 9);
        C.due("by towns, not by distances", x.count(8), 5);
    }

    private static void eventsAtMost() {
        KeptWays x = Texts.withNet("towns 3;road 0 1 5;road 1 2 3");
        x.watch(1, 5);
        x.watch(2, 8);
        x.watch(0, 5);
        for (int i = 0; i < 49; i++) {
            x.length(0, i % 2 == 0 ? 6 : 5);
        }
        C.due("98", x.count(8), 98);
        x.forget(2);
        x.length(0, 5);
        C.due("99", x.count(8), 99);
        x.watch(2, 8);
        x.length(0, 6);
        C.due("100: the second is not written", x.count(8), 100);
        event(x, 99, 51, 1, 1, 6);
        x.length(0, 5);
        C.due("100", x.count(8), 100);
        C.due("no event 100", x.event(100, 0), NO);
        C.due("beyond is kept all the same", x.count(10), 0);
    }

    private static void ifLength() {
        KeptWays x = Texts.withNet("towns 4;road 0 1 5;road 1 2 3;road 0 2 9;road 2 3 -2;road 3 1 4");
        C.due("three", x.ifLength(0, 6), 3);
        C.due("nobody", x.ifLength(2, 100), 0);
        C.due("so long", x.ifLength(0, 5), -2);
        C.due("ring", x.ifLength(1, -2), -3);
        C.due("no road", x.ifLength(5, 1), -1);
        C.due("no road", x.ifLength(-1, 1), -1);
        C.due("no length", x.ifLength(0, BILLION + 1), -1);
        C.due("no length", x.ifLength(0, -BILLION - 1), -1);
        C.due("aside: turn", x.count(5), 0);
        C.due("aside: length", x.road(0, 2), 5);
        C.due("aside: distance", x.town(2, 0), 8);
        C.due("aside: touched", x.count(4), 0);
        x.close(2);
        C.due("closed", x.ifLength(2, 1), -6);
        C.due("closed ahead of so long", x.ifLength(2, 9), -6);
        C.due("length() itself: so long", x.length(2, 9), -2);
        C.due("NONE ahead of closed", x.ifLength(2, BILLION + 1), -1);
        C.due("NONE ahead of closed", x.ifLength(2, -BILLION - 1), -1);
        x.close(1);
        C.due("closed ahead of a ring", x.ifLength(1, -2), -6);
        x.open(1);
        C.due("so long, open again", x.ifLength(1, 3), -2);
        KeptWays y = Texts.withNet("towns 4;road 0 1 1000000000;road 1 2 1000000000;road 2 3 1");
        C.due("too far", y.ifLength(2, BILLION), -4);
        y.watch(3, 0);
        C.due("one", y.ifLength(2, -BILLION), 1);
        C.due("no event", y.count(8), 0);
        y.close(2);
        C.due("closed ahead of too far", y.ifLength(2, BILLION), -6);
    }

    private static void keepAndUndo() {
        KeptWays x = Texts.withNet("towns 3;road 0 1 5;road 1 2 3");
        C.due("nothing kept", x.undo(), false);
        x.length(0, 6);
        x.watch(2, 9);
        x.seed(9);
        C.due("kept: turn", x.keep(), 1);
        x.lay(0, 2, 1);
        x.close(0);
        x.length(1, 7);
        x.origin(1);
        x.watch(1, 1);
        x.forget(2);
        x.seed(10);
        x.feed(1, 2, 3, 4, 5);
        C.due("undone", x.undo(), true);
        int[] due = {3, 2, 2, 0, 2, 1, 3, 2, 0, 4, 0, 0, 20, 9};
        for (int i = 0; i < due.length; i++) {
            C.due("undone: count(" + i + ")", x.count(i), due[i]);
        }
        C.due("length", x.road(1, 2), 3);
        C.due("open", x.road(0, 3), 1);
        C.due("limit", x.town(2, 10), 9);
        C.due("touched", x.touched(0), 1);
        C.due("distance", x.town(2, 0), 9);
        C.due("parent", x.town(2, 1), 1);
        C.due("between", x.between(1, 2), 3);
        x.close(1);
        C.due("undone again", x.undo(), true);
        C.due("open again", x.road(1, 3), 1);
        x.length(0, 8);
        C.due("kept anew", x.keep(), 2);
        x.length(0, 9);
        x.undo();
        C.due("the last that was kept", x.road(0, 2), 8);
    }

    private static void undoAndEvents() {
        KeptWays x = Texts.withNet("towns 3;road 0 1 5");
        x.watch(1, 5);
        x.length(0, 6);
        x.keep();
        x.length(0, 4);
        C.due("two events", x.count(8), 2);
        x.undo();
        C.due("one event", x.count(8), 1);
        x.length(0, 3);
        event(x, 1, 2, 1, 0, 3);
    }
}
