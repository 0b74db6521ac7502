/** The sentences of promises 10 to 15, 17 to 25, 30 and 31 that name a boundary. */
public final class FigureBoundaryTest {
    private static final Checker C = new Checker("FigureBoundaryTest");
    private static final long NO = KeptWays.NO_LENGTH;
    private static final int BILLION = 1_000_000_000;
    private static final int[] NO_WHATS = {-1, Integer.MAX_VALUE, Integer.MIN_VALUE};
    private static final int[] NO_ROADS = {-1, 36, 37, 64, 100, Integer.MAX_VALUE, Integer.MIN_VALUE};

    private FigureBoundaryTest() {
    }

    public static void main(String[] args) {
        Sentences.runAll(FigureBoundaryTest.class, C);
    }

    // ---- counts, roads, changes

    @Says("`NO_LENGTH = -9000000000000000000L`: What is told where a length is asked for and there is none.")
    private static void constants() {
        C.due("NONE", KeptWays.NONE, -1);
        C.due("NO_LENGTH", KeptWays.NO_LENGTH, -9000000000000000000L);
        C.due("none", new KeptWays().town(1, 0), KeptWays.NO_LENGTH);
    }

    @Says(promise = 10, value = "0 TOWNS, 1 ROADS, 2 OPEN ones, 3 ORIGIN, 4 TOUCHED, 5 TURN, 6 TOWNS with a DISTANCE, 7 TIGHT ROADS, 8 EVENTS, 9 WATCHES told (TOWNS, bits), 10 those BEYOND (bits), 11 MIDDLE (-2: none), 12 bytes of the tape, 13 X; NONE for others.")
    private static void counts() {
        KeptWays x = Texts.withNet("towns 12;road 0 11 5");
        for (int what : new int[] {-1, 14, 15, Integer.MAX_VALUE, Integer.MIN_VALUE}) {
            C.due("count(" + what + ")", x.count(what), -1);
        }
        for (int t = 0; t < 12; t++) {
            C.due("watch " + t, x.watch(t, 4), t == 0 ? 0 : 1);
        }
        C.due("all told", x.count(9), 4095);
        C.due("all but the origin beyond", x.count(10), 4094);
        C.due("no middle", x.count(11), -2);
        C.due("no bytes", x.count(12), 0);
        C.due("X", x.count(13), 1);
        C.due("two distances", x.count(6), 2);
        C.due("a tight road", x.count(7), 1);
        C.due("no events", x.count(8), 0);
        C.due("nobody touched", x.count(4), 0);
        x.close(0);
        C.due("beyond still", x.count(8), 0);
        C.due("one touched", x.count(4), 1);
        C.due("one road", x.count(1), 1);
        C.due("none open", x.count(2), 0);
        C.due("the origin's alone", x.count(6), 1);
        C.due("no tight road", x.count(7), 0);
    }

    @Says(promise = 11, value = "Of a ROAD (CLOSED, too), what 0 FROM, 1 TO, 2 LENGTH, 3 whether OPEN, 4 whether TIGHT (CLOSED: 0), 5 whether it is a PARENT; NO_LENGTH: no such ones.")
    private static void roads() {
        KeptWays x = Texts.withNet("towns 3;road 0 2 -7");
        C.due("tight", x.road(0, 4), 1);
        C.due("a parent", x.road(0, 5), 1);
        x.close(0);
        long[] closed = {0, 2, -7, 0, 0, 0, NO};
        for (int what = 0; what < 7; what++) {
            C.due("closed: road(0, " + what + ")", x.road(0, what), closed[what]);
        }
        for (int what : NO_WHATS) {
            C.due("road(0, " + what + ")", x.road(0, what), NO);
        }
        for (int r : NO_ROADS) {
            C.due("road(" + r + ", 2)", x.road(r, 2), NO);
        }
        C.due("not laid yet", x.road(1, 2), NO);
        // Closed, it would be tight: its length is what is between.
        x.lay(0, 2, -7);
        C.due("closed, beside a tight one", x.road(0, 4), 0);
        C.due("closed, lower than the parent", x.road(0, 5), 0);
        C.due("the parent", x.road(1, 5), 1);
    }

    @Says(promise = 12, value = "SLACK (what 0), BEARS (1), YIELDS (2) of a ROAD that is OPEN, -1: without end (1, 2); NO_LENGTH: there is none, no such ones.")
    private static void noSuchChange() {
        KeptWays x = Texts.withNet("towns 3;road 0 1 5;road 2 1 5");
        C.due("no slack", x.change(1, 0), NO);
        C.due("bears without end", x.change(1, 1), -1);
        C.due("yields without end", x.change(1, 2), -1);
        for (int what : new int[] {3, -1, Integer.MAX_VALUE, Integer.MIN_VALUE}) {
            C.due("change(0, " + what + ")", x.change(0, what), NO);
            C.due("change(1, " + what + ")", x.change(1, what), NO);
        }
        x.close(0);
        for (int what = 0; what < 3; what++) {
            C.due("closed: change(0, " + what + ")", x.change(0, what), NO);
            for (int r : NO_ROADS) {
                C.due("change(" + r + ", " + what + ")", x.change(r, what), NO);
            }
            C.due("not laid yet", x.change(2, what), NO);
        }
    }

    @Says("TIGHT: a ROAD whose FROM has a DISTANCE, and that with its LENGTH is the DISTANCE of its TO.")
    private static void tight() {
        KeptWays x = Texts.withNet("towns 4;road 0 1 5;road 0 1 6;road 2 3 0;road 1 0 5");
        int[] due = {1, 0, 0, 0};
        for (int r = 0; r < 4; r++) {
            C.due("tight is " + r, x.road(r, 4), due[r]);
        }
        C.due("one", x.count(7), 1);
        x.length(1, 5);
        C.due("as short", x.road(1, 4), 1);
        x.origin(2);
        C.due("2 to 3 alone", x.count(7), 1);
        C.due("2 to 3", x.road(2, 4), 1);
        C.due("0 to 1 has a from without distance", x.road(0, 4), 0);
    }

    @Says("PARENT of a TOWN (but ORIGIN): the lowest TIGHT ROAD to it.")
    private static void parents() {
        KeptWays x = Texts.withNet("towns 3;road 0 1 6;road 0 1 5;road 0 1 5;road 1 0 5");
        C.due("the lowest tight one", x.town(1, 1), 1);
        C.due("of the origin", x.town(0, 1), -2);
        C.due("without distance", x.town(2, 1), -2);
        x.close(1);
        C.due("the next one", x.town(1, 1), 2);
        x.length(2, 6);
        C.due("0 again", x.town(1, 1), 0);
        x.origin(1);
        C.due("of another origin", x.town(1, 1), -2);
        C.due("of 0 then", x.town(0, 1), 3);
        KeptWays y = Texts.withNet("towns 3");
        for (int i = 0; i < 35; i++) {
            y.lay(0, 1, 5);
        }
        y.lay(0, 2, 5);
        C.due("road 35 is a parent", y.town(2, 1), 35);
        C.due("road 35 is a parent", y.road(35, 5), 1);
    }

    @Says("WAYS AS SHORT: how many rows of TIGHT ROADS there are from ORIGIN to it (1 for ORIGIN; 1,000,000,000 is told for more).")
    private static void waysAsShort() {
        KeptWays x = Texts.withNet("towns 12;road 0 1 1");
        C.due("of the origin", x.town(0, 4), 1);
        C.due("one", x.town(1, 4), 1);
        C.due("none", x.town(2, 4), 0);
        // The most that 36 roads one behind the other can make: eight times three, three times four beside.
        KeptWays y = Texts.withNet("towns 12");
        for (int t = 0; t < 11; t++) {
            for (int i = 0; i < (t < 8 ? 3 : 4); i++) {
                y.lay(t, t + 1, 3 - t % 4);
            }
        }
        C.due("36 roads", y.count(1), 36);
        C.due("ways to 8", y.town(8, 4), 6561);
        C.due("ways to 11", y.town(11, 4), 419904);
        C.due("of the origin", y.town(0, 4), 1);
        y.close(0);
        C.due("two thirds of them", y.town(11, 4), 279936);
    }

    @Says("NEEDED for a TOWN: ROADS on all of these.")
    private static void neededOnes() {
        KeptWays x = Texts.withNet("towns 4;road 0 1 1;road 1 2 1;road 0 2 2;road 2 3 1;road 0 3 4");
        int[] for3 = {0, 0, 0, 1, 0};
        for (int r = 0; r < 5; r++) {
            C.due("needed(" + r + ", 3)", x.needed(r, 3), for3[r]);
            C.due("the origin needs none", x.needed(r, 0), 0);
        }
        C.due("one for 3", x.town(3, 5), 1);
        C.due("none for 2", x.town(2, 5), 0);
        C.due("none for 0", x.town(0, 5), 0);
        x.length(4, 3);
        C.due("none for 3, as there is another one", x.needed(3, 3), 0);
        x.length(4, 4);
        x.length(2, 3);
        C.due("all three", x.town(3, 5), 3);
    }

    @Says("SLACK of a ROAD: what it would have to be shorter to be TIGHT (none, if FROM or TO has no DISTANCE).")
    private static void slack() {
        KeptWays x = Texts.withNet("towns 4;road 0 1 5;road 0 1 6;road 2 1 1;road 2 3 1;road 1 0 5");
        C.due("tight", x.change(0, 0), 0);
        C.due("by 1", x.change(1, 0), 1);
        C.due("from has none", x.change(2, 0), NO);
        C.due("neither has one", x.change(3, 0), NO);
        C.due("to the origin", x.change(4, 0), 10);
        KeptWays y = Texts.withNet("towns 4;road 0 1 1000000000;road 1 2 1000000000;road 2 3 147483647");
        y.lay(0, 3, -BILLION);
        y.length(0, BILLION);
        C.due("beyond ints", y.change(2, 0), 3147483647L);
    }

    @Says("BEARS: how much longer a ROAD may become, so that no DISTANCE is another one: 0, if it is the one TIGHT ROAD to its TO; else without end.")
    private static void bears() {
        KeptWays x = Texts.withNet("towns 3;road 0 1 5;road 0 1 6;road 2 1 1");
        C.due("the one tight road", x.change(0, 1), 0);
        C.due("not tight", x.change(1, 1), -1);
        C.due("no slack", x.change(2, 1), -1);
        x.length(1, 5);
        C.due("one of two", x.change(0, 1), -1);
        C.due("the other one", x.change(1, 1), -1);
        x.close(1);
        C.due("the one again", x.change(0, 1), 0);
    }

    @Says("YIELDS: how much shorter: its SLACK; without end, if it has none. (RINGS aside.)")
    private static void yields() {
        KeptWays x = Texts.withNet("towns 3;road 0 1 5;road 0 1 6;road 2 1 1;road 1 0 1");
        C.due("tight", x.change(0, 2), 0);
        C.due("by 1", x.change(1, 2), 1);
        C.due("no slack", x.change(2, 2), -1);
        C.due("a ring of 0 would be by it", x.change(3, 2), 6);
        C.due("indeed", x.length(3, 1 - 6), -3);
    }

    // ---- towns

    @Says(promise = 13, value = "NO_LENGTH: no such ones.")
    private static void noSuchTown() {
        KeptWays x = Texts.withNet("towns 3;road 0 1 5");
        for (int what : new int[] {-1, 16, 17, Integer.MAX_VALUE, Integer.MIN_VALUE}) {
            C.due("town(0, " + what + ")", x.town(0, what), NO);
        }
        for (int what = 0; what < 16; what++) {
            C.due("town(3, " + what + ")", x.town(3, what), NO);
            C.due("town(-1, " + what + ")", x.town(-1, what), NO);
        }
    }

    @Says(promise = 13, value = "Of a TOWN, what 0 DISTANCE (NO_LENGTH), 1 PARENT (-2: none), 2 how many ROADS THE WAY has (-2), 3 TIGHT ROADS to it, 4 WAYS AS SHORT (0: none), 5 NEEDED (how many; -2: no WAY), 6 DEAREST (-2: no ROAD on THE WAY), 7 NEXT (NO_LENGTH), 8 REACH (NO_LENGTH), 9 THE RING (NO_LENGTH), 10 LIMIT (NO_LENGTH: no WATCH), 11 TOWNS below it in the tree of PARENTS, 12 GROUP, 13 NARROW (NO_LENGTH), 14 APART (NO_LENGTH), 15 how many other TOWNS there are from which there is a WAY to it")
    private static void townsWithoutAll() {
        KeptWays x = Texts.withNet("towns 3;road 0 1 5");
        long[] origin = {0, -2, 0, 0, 1, 0, -2, NO, 5, NO, NO, 1, 0, NO, 0, 0};
        long[] next = {5, 0, 1, 1, 1, 1, 0, NO, NO, NO, NO, 0, 1, 5, NO, 1};
        long[] alone = {NO, -2, -2, 0, 0, -2, -2, NO, NO, NO, NO, 0, 2, NO, NO, 0};
        for (int what = 0; what < 16; what++) {
            C.due("of the origin: town(0, " + what + ")", x.town(0, what), origin[what]);
            C.due("town(1, " + what + ")", x.town(1, what), next[what]);
            C.due("of one that nobody comes to: town(2, " + what + ")", x.town(2, what), alone[what]);
        }
        KeptWays y = Texts.withNet("towns 12");
        for (int t = 0; t < 11; t++) {
            y.lay(t, t + 1, 1);
        }
        C.due("the longest way", y.town(11, 2), 11);
        C.due("below the origin", y.town(0, 11), 11);
        C.due("below the last but one", y.town(10, 11), 1);
        C.due("below the last", y.town(11, 11), 0);
        y.lay(11, 0, 1);
        y.origin(5);
        C.due("0 is below others, too", y.town(11, 11), 5);
        C.due("all others come to the last", y.town(11, 15), 11);
    }

    @Says("DEAREST for a TOWN: of ROADS of THE WAY to it the one WITHOUT which its DISTANCE is the greatest (none is more than any; of like ones the lowest).")
    private static void dearest() {
        KeptWays x = Texts.withNet("towns 3;road 1 2 1;road 0 1 1;road 0 1 9;road 1 2 9");
        C.due("10 and 10: the lowest, which comes last on the way", x.town(2, 6), 0);
        x.length(2, 10);
        C.due("10 and 11", x.town(2, 6), 1);
        x.close(3);
        C.due("none is more than any", x.town(2, 6), 0);
        x.close(2);
        C.due("none and none: the lowest", x.town(2, 6), 0);
        C.due("of the origin", x.town(0, 6), -2);
        x.close(1);
        C.due("no way", x.town(2, 6), -2);
        // A road that makes no difference is the dearest where none makes one.
        KeptWays y = Texts.withNet("towns 3;road 0 1 1;road 0 1 1");
        C.due("a road as short beside it", y.town(1, 6), 0);
        KeptWays z = Texts.withNet("towns 3;road 0 1 -9;road 0 1 -7;road 1 2 -9;road 1 2 -8");
        C.due("below 0", z.town(2, 6), 0);
    }

    @Says("NEXT: the least length of a WAY from ORIGIN to a TOWN by no TOWN twice that is longer than its DISTANCE; none.")
    private static void next() {
        KeptWays x = Texts.withNet("towns 4;road 0 1 5;road 1 2 1;road 2 1 1;road 1 0 1");
        C.due("by no town twice", x.town(1, 7), NO);
        C.due("by no town twice", x.town(2, 7), NO);
        C.due("of the origin, though it has a ring", x.town(0, 7), NO);
        C.due("no way at all", x.town(3, 7), NO);
        x.lay(0, 1, 5);
        C.due("as short is not longer", x.town(1, 7), NO);
        x.lay(0, 1, 6);
        C.due("longer by 1", x.town(1, 7), 6);
        C.due("longer by 1", x.town(2, 7), 7);
        x.lay(0, 2, 5);
        C.due("2 by itself is shorter", x.town(2, 0), 5);
        C.due("1 by 2 is the next, with 0 1", x.town(1, 7), 6);
        C.due("and then 6 to 2", x.town(2, 7), 6);
        x.close(0);
        x.close(4);
        C.due("6 by 0 1 and by 0 2 1: both as short", x.town(1, 0), 6);
        C.due("no next", x.town(1, 7), NO);
        KeptWays y = Texts.withNet("towns 5;road 0 4 0;road 0 1 1000000000;road 1 2 1000000000");
        y.lay(2, 3, 0);
        y.lay(3, 4, BILLION);
        C.due("beyond ints", y.town(4, 7), 3_000_000_000L);
    }

    @Says("NEXT: the least length of a WAY from ORIGIN to a TOWN by no TOWN twice that is longer than its DISTANCE; none.")
    private static void nextByNoTownTwice() {
        KeptWays x = Texts.withNet("towns 5;road 0 1 1;road 1 2 1;road 2 1 1;road 1 3 1;road 1 0 1;road 0 4 7");
        C.due("not by the ring of 1 and 2", x.town(3, 7), NO);
        C.due("not by the ring of 0 and 1", x.town(4, 7), NO);
        x.lay(2, 3, 9);
        C.due("by 2", x.town(3, 7), 11);
        x.close(6);
        C.due("not by a closed road", x.town(3, 7), NO);
        C.due("no way from 4", x.between(4, 3), NO);
        x.lay(4, 3, -4);
        C.due("by 4, as soon as there is a road", x.town(3, 7), 3);
        KeptWays all = Texts.withNet("towns 12;road 0 11 1");
        for (int t = 0; t < 11; t++) {
            all.lay(t, t + 1, 1);
        }
        C.due("by all towns", all.town(11, 7), 11);
        all.length(0, 1000);
        C.due("by the one road, where the way is by all towns", all.town(11, 7), 1000);
        for (int t = 10; t >= 0; t--) {
            all.lay(t, t + 1, 2 + t);
            C.due("leaves the way at " + t, all.town(11, 7), 12 + t);
        }
        KeptWays y = Texts.withNet("towns 3;road 0 1 5;road 0 2 1;road 2 1 5");
        C.due("a road as long to the same town", y.town(1, 7), 6);
        KeptWays z = Texts.withNet("towns 3;road 0 1 5;road 0 2 5;road 2 1 1");
        C.due("a road as long from the same town", z.town(1, 7), 6);
        for (int far : new int[] {100, -100, 0}) {
            KeptWays three = Texts.withNet("road 0 1 " + (far + 10) + ";road 0 1 " + far + ";road 0 1 " + (far + 5));
            C.due("the least of those that are longer", three.town(1, 7), far + 5);
        }
    }

    @Says("REACH of a TOWN: the greatest BETWEEN from it to another one (those that it comes to); none.")
    private static void reach() {
        KeptWays x = Texts.withNet("towns 5;road 0 1 -5;road 1 2 -3;road 3 4 1000000000;road 2 0 9");
        C.due("below 0, itself aside", x.town(0, 8), -5);
        C.due("3 does not count: 0 does not come there", x.town(1, 8), 6);
        C.due("of 2", x.town(2, 8), 9);
        C.due("of 3", x.town(3, 8), BILLION);
        C.due("none", x.town(4, 8), NO);
        KeptWays y = Texts.withNet("towns 5;road 1 2 1000000000;road 2 3 1000000000;road 3 4 1000000000");
        C.due("beyond ints", y.town(1, 8), 3_000_000_000L);
    }

    @Says("MIDDLE: of TOWNS that come to all others the one with the least REACH (of like ones the lowest); none.")
    private static void middle() {
        KeptWays x = new KeptWays();
        C.due("none", x.count(11), -2);
        x.lay(1, 0, 7);
        C.due("1 alone comes to all", x.count(11), 1);
        x.lay(0, 1, 7);
        C.due("like ones", x.count(11), 0);
        x.length(1, 8);
        C.due("1 has less", x.count(11), 1);
        x.length(1, -6);
        C.due("0 has less, below 0", x.count(11), 0);
        KeptWays y = Texts.withNet("towns 3;road 0 1 1;road 1 2 5;road 2 1 2");
        C.due("1 and 2 do not come to 0", y.count(11), 0);
        y.close(0);
        C.due("none", y.count(11), -2);
    }

    @Says("THE RING of a TOWN: the least length of a RING through it; none.")
    private static void theRing() {
        KeptWays x = Texts.withNet("towns 4;road 0 1 1;road 1 0 1;road 1 2 4;road 2 0 4;road 0 3 1");
        C.due("of 0", x.town(0, 9), 2);
        C.due("of 1", x.town(1, 9), 2);
        C.due("of 2", x.town(2, 9), 9);
        C.due("of 3: none", x.town(3, 9), NO);
        x.close(1);
        C.due("of 0", x.town(0, 9), 9);
        x.close(0);
        C.due("none", x.town(0, 9), NO);
        KeptWays y = Texts.withNet("towns 4;road 0 1 1;road 2 3 1000000000;road 3 2 1000000000");
        C.due("where the origin does not come", y.town(2, 9), 2_000_000_000L);
    }

    @Says("GROUP of a TOWN: the lowest TOWN from which there is a WAY to it and back (itself, too).")
    private static void group() {
        KeptWays x = Texts.withNet("towns 5;road 0 1 1;road 1 2 1;road 3 2 1;road 2 3 1");
        int[] due = {0, 1, 2, 2, 4};
        for (int t = 0; t < 5; t++) {
            C.due("group of " + t, x.town(t, 12), due[t]);
        }
        x.lay(3, 1, 1);
        C.due("one more", x.town(3, 12), 1);
        x.lay(2, 0, 1);
        C.due("all but 4", x.town(3, 12), 0);
        C.due("4 alone", x.town(4, 12), 4);
    }

    @Says("NARROW: of WAYS from ORIGIN to a TOWN the least that the longest of their ROADS is (none for ORIGIN, and without a WAY).")
    private static void narrow() {
        KeptWays x = Texts.withNet("towns 4;road 0 1 5;road 1 0 5;road 1 2 5;road 0 2 6");
        C.due("of the origin, though it has a ring", x.town(0, 13), NO);
        C.due("without a way", x.town(3, 13), NO);
        C.due("5 and 5, not 6", x.town(2, 13), 5);
        C.due("the distance is by 6", x.town(2, 0), 6);
        KeptWays y = Texts.withNet("towns 3;road 0 1 -1000000000;road 1 2 1000000000");
        C.due("the least", y.town(1, 13), -BILLION);
        C.due("the most", y.town(2, 13), BILLION);
        y.length(1, 0);
        C.due("0", y.town(2, 13), 0);
    }

    @Says("APART: the least length of two WAYS from ORIGIN to a TOWN together that have no ROAD in common (0 for ORIGIN); none.")
    private static void apart() {
        KeptWays x = Texts.withNet("towns 4;road 0 1 5;road 0 1 5;road 1 2 1;road 1 0 1");
        C.due("of the origin", x.town(0, 14), 0);
        C.due("two roads as long", x.town(1, 14), 10);
        C.due("one road in common", x.town(2, 14), NO);
        C.due("no way", x.town(3, 14), NO);
        x.lay(1, 2, -4);
        C.due("a town in common", x.town(2, 14), 7);
        x.close(1);
        C.due("one road in common", x.town(2, 14), NO);
        C.due("one way alone", x.town(1, 14), NO);
        KeptWays y = Texts.withNet("towns 4;road 0 1 1;road 1 2 -9;road 2 3 1;road 0 2 5;road 1 3 5");
        C.due("the way itself is given up", y.town(3, 14), 12);
        KeptWays z = Texts.withNet("towns 3;road 0 1 1000000000;road 1 2 1000000000;road 0 2 1000000000");
        C.due("beyond ints", z.town(2, 14), 3_000_000_000L);
    }

    // ---- the way, ways without a road, other lengths

    @Says("THE WAY to a TOWN goes back by PARENTS.")
    private static void theWay() {
        KeptWays x = Texts.withNet("towns 4;road 2 3 1;road 1 2 1;road 0 2 2;road 0 1 1;road 0 1 1");
        int[] due = {3, 1, 0, -4};
        for (int i = 0; i < 4; i++) {
            C.due("the lowest tight ones: way(3, " + i + ")", x.way(3, i), due[i]);
        }
        C.due("three roads", x.town(3, 2), 3);
        x.close(1);
        C.due("two roads", x.town(3, 2), 2);
        C.due("by 0 to 2", x.way(3, 0), 2);
        C.due("none to the origin", x.town(0, 2), 0);
    }

    @Says(promise = 14, value = "ROAD i (0 on) of THE WAY to a TOWN, from ORIGIN on; -4: not so many; NONE: no such ones, no DISTANCE.")
    private static void way() {
        KeptWays x = Texts.withNet("towns 12");
        for (int t = 0; t < 10; t++) {
            x.lay(t, t + 1, 1);
        }
        for (int i = 0; i < 10; i++) {
            C.due("way(10, " + i + ")", x.way(10, i), i);
        }
        C.due("not so many", x.way(10, 10), -4);
        C.due("not so many", x.way(10, Integer.MAX_VALUE), -4);
        C.due("of the origin", x.way(0, 0), -4);
        C.due("below 0", x.way(10, -1), -1);
        C.due("below 0, of the origin", x.way(0, -1), -1);
        C.due("below 0", x.way(10, Integer.MIN_VALUE), -1);
        C.due("no distance", x.way(11, 0), -1);
        C.due("no town", x.way(12, 0), -1);
        C.due("no town", x.way(-1, 0), -1);
    }

    @Says(promise = 15, value = "Whether a ROAD is NEEDED for a TOWN (1, 0); NONE: no such ones, CLOSED, no DISTANCE.")
    private static void needed() {
        KeptWays x = Texts.withNet("towns 3;road 0 1 5;road 0 1 6");
        C.due("needed", x.needed(0, 1), 1);
        C.due("not needed", x.needed(1, 1), 0);
        C.due("not by the origin", x.needed(0, 0), 0);
        C.due("no distance", x.needed(0, 2), -1);
        C.due("no town", x.needed(0, 3), -1);
        C.due("no town", x.needed(0, -1), -1);
        for (int r : NO_ROADS) {
            C.due("needed(" + r + ", 1)", x.needed(r, 1), -1);
        }
        C.due("not laid yet", x.needed(2, 1), -1);
        x.close(1);
        C.due("closed", x.needed(1, 1), -1);
        C.due("closed, for the origin", x.needed(1, 0), -1);
    }

    @Says(promise = 17, value = "WITHOUT a ROAD: DISTANCE of a TOWN; NO_LENGTH: there is none, no such ones, it is CLOSED.")
    private static void without() {
        KeptWays x = Texts.withNet("towns 3;road 0 1 5;road 0 1 6");
        C.due("without 0", x.without(0, 1), 6);
        C.due("without 1", x.without(1, 1), 5);
        C.due("of the origin", x.without(0, 0), 0);
        C.due("no distance", x.without(0, 2), NO);
        C.due("no town", x.without(0, 3), NO);
        C.due("no town", x.without(0, -1), NO);
        for (int r : NO_ROADS) {
            C.due("without(" + r + ", 1)", x.without(r, 1), NO);
        }
        C.due("not laid yet", x.without(2, 1), NO);
        x.close(1);
        C.due("closed", x.without(1, 1), NO);
        C.due("closed, of the origin", x.without(1, 0), NO);
        C.due("then there is none", x.without(0, 1), NO);
        KeptWays y = Texts.withNet("towns 4;road 0 3 1;road 0 1 1000000000;road 1 2 1000000000;road 2 3 1000000000");
        C.due("beyond ints", y.without(0, 3), 3_000_000_000L);
    }

    @Says("WITHOUT a ROAD: DISTANCE of a TOWN, were that CLOSED.")
    private static void asIfClosed() {
        KeptWays x = Texts.withNet("towns 5;road 0 1 5;road 1 2 3;road 0 2 9;road 2 3 -2;road 3 1 4;road 4 3 1");
        for (int r = 0; r < 6; r++) {
            long[] told = new long[5];
            for (int t = 0; t < 5; t++) {
                told[t] = x.without(r, t);
            }
            x.close(r);
            for (int t = 0; t < 5; t++) {
                C.due("without(" + r + ", " + t + ")", told[t], x.town(t, 0));
            }
            x.open(r);
        }
    }

    @Says("BETWEEN two TOWNS: the least length of a WAY; none.")
    private static void betweenTwo() {
        KeptWays x = Texts.withNet("towns 4;road 1 2 3;road 2 3 -5;road 1 3 -1;road 3 1 9");
        C.due("by 2", x.between(1, 3), -2);
        C.due("around", x.between(3, 2), 12);
        C.due("itself, though it has a ring", x.between(1, 1), 0);
        C.due("none", x.between(1, 0), NO);
        C.due("none from the origin", x.between(0, 1), NO);
    }

    @Says(promise = 18, value = "BETWEEN; NO_LENGTH: there is none, no such ones.")
    private static void between() {
        KeptWays x = Texts.withNet("towns 12;road 11 10 -5");
        C.due("from the last", x.between(11, 10), -5);
        C.due("not back", x.between(10, 11), NO);
        C.due("to itself", x.between(11, 11), 0);
        for (int t : new int[] {12, -1, Integer.MAX_VALUE, Integer.MIN_VALUE}) {
            C.due("from " + t, x.between(t, 0), NO);
            C.due("to " + t, x.between(0, t), NO);
            C.due("from and to " + t, x.between(t, t), NO);
        }
        KeptWays y = Texts.withNet("towns 5;road 1 2 -1000000000;road 2 3 -1000000000;road 3 4 -1000000000");
        C.due("beyond ints", y.between(1, 4), -3_000_000_000L);
    }

    @Says("FREE: the least length of a WAY from ORIGIN to a TOWN, if up to some of its ROADS with LENGTHS above 0 count as 0 (one that is gone again and again counts each time).")
    private static void freeRoads() {
        KeptWays x = Texts.withNet("towns 3;road 0 1 10;road 1 0 -9");
        long[] origin = {0, -9, -18, -27};
        long[] one = {10, 0, -9, -18};
        for (int some = 0; some < 4; some++) {
            C.due("free(0, " + some + ")", x.free(0, some), origin[some]);
            C.due("free(1, " + some + ")", x.free(1, some), one[some]);
            C.due("no way", x.free(2, some), NO);
        }
        KeptWays y = Texts.withNet("towns 4;road 0 1 0;road 1 2 -1;road 2 3 1");
        C.due("0 stays 0", y.free(1, 3), 0);
        C.due("below 0 stays", y.free(2, 3), -1);
        C.due("1 counts as 0", y.free(3, 1), -1);
        C.due("up to some: fewer, too", y.free(3, 3), -1);
        C.due("none of them", y.free(3, 0), 0);
    }

    @Says(promise = 19, value = "FREE with some ROADS (0 to 3); NO_LENGTH: there is none, no such ones.")
    private static void free() {
        KeptWays x = Texts.withNet("towns 6;road 0 1 1;road 1 2 1;road 2 3 1;road 3 4 1");
        long[] due = {4, 3, 2, 1};
        for (int some = 0; some < 4; some++) {
            C.due("free(4, " + some + ")", x.free(4, some), due[some]);
            C.due("free(5, " + some + ")", x.free(5, some), NO);
            C.due("free(6, " + some + ")", x.free(6, some), NO);
            C.due("free(-1, " + some + ")", x.free(-1, some), NO);
        }
        for (int some : new int[] {4, -1, Integer.MAX_VALUE, Integer.MIN_VALUE}) {
            C.due("free(4, " + some + ")", x.free(4, some), NO);
        }
    }

    @Says(promise = 20, value = "The least length of a WAY of so many ROADS (0 to 36) at most from ORIGIN to a TOWN; NO_LENGTH: there is none, no such ones.")
    private static void hops() {
        KeptWays x = Texts.withNet("towns 12");
        for (int t = 0; t < 10; t++) {
            x.lay(t, t + 1, 1);
        }
        x.lay(0, 10, 100);
        C.due("0", x.hops(10, 0), NO);
        C.due("0, of the origin", x.hops(0, 0), 0);
        C.due("1", x.hops(10, 1), 100);
        C.due("9", x.hops(10, 9), 100);
        C.due("10", x.hops(10, 10), 10);
        C.due("36", x.hops(10, 36), 10);
        C.due("no way", x.hops(11, 36), NO);
        for (int most : new int[] {37, -1, Integer.MAX_VALUE, Integer.MIN_VALUE}) {
            C.due("hops(10, " + most + ")", x.hops(10, most), NO);
            C.due("hops(0, " + most + ")", x.hops(0, most), NO);
        }
        C.due("no town", x.hops(12, 1), NO);
        C.due("no town", x.hops(-1, 1), NO);
    }

    @Says("MEETING of some TOWNS: the TOWN to which BETWEENS from all of them are least together, or by the greatest of them (of like ones the lowest); none.")
    private static void meeting() {
        KeptWays x = Texts.withNet("towns 4;road 0 2 5;road 1 2 5;road 0 3 5;road 1 3 5");
        C.due("like ones: the lowest", x.meet(3, 0), 2);
        C.due("like ones: the lowest", x.meet(3, 2), 2);
        C.due("the sum", x.meet(3, 1), 10);
        C.due("the greatest", x.meet(3, 3), 5);
        x.length(2, 1);
        C.due("least together", x.meet(3, 0), 3);
        C.due("but by the greatest", x.meet(3, 2), 2);
        C.due("2 and 3 have none", x.meet(12, 0), NO);
        x.lay(0, 1, 4);
        C.due("one of themselves", x.meet(3, 0), 1);
        C.due("by 4", x.meet(3, 3), 4);
        x.lay(1, 0, 3);
        C.due("town 0", x.meet(3, 0), 0);
        C.due("by 3", x.meet(3, 1), 3);
        KeptWays y = Texts.withNet("towns 4;road 1 2 -1000000000;road 2 3 -1000000000;road 0 3 -1000000000");
        C.due("below 0", y.meet(7, 0), 3);
        C.due("beyond ints", y.meet(7, 1), -4_000_000_000L);
        C.due("the greatest of three below 0", y.meet(7, 3), -BILLION);
    }

    @Says(promise = 21, value = "MEETING of TOWNS (bits, one at least), what 0 it, 1 the sum; 2 it by the greatest, 3 that; NO_LENGTH: there is none, no such ones.")
    private static void meet() {
        KeptWays x = Texts.withNet("towns 12;road 0 11 5");
        C.due("the last town alone", x.meet(1 << 11, 0), 11);
        C.due("0 and 11", x.meet(1 << 11 | 1, 0), 11);
        C.due("all: none", x.meet(4095, 0), NO);
        for (int towns : new int[] {0, 1 << 12, 1 << 12 | 1, 1 << 31, -1, Integer.MAX_VALUE}) {
            for (int what = 0; what < 4; what++) {
                C.due("meet(" + towns + ", " + what + ")", x.meet(towns, what), NO);
            }
        }
        for (int what : new int[] {4, -1, Integer.MAX_VALUE, Integer.MIN_VALUE}) {
            C.due("meet(1, " + what + ")", x.meet(1, what), NO);
        }
        KeptWays y = new KeptWays();
        C.due("the town behind the last", y.meet(4, 0), NO);
        C.due("with one that is", y.meet(5, 0), NO);
        for (int what = 0; what < 4; what++) {
            C.due("no meeting", y.meet(3, what), NO);
        }
    }

    @Says(promise = 22, value = "The least length of a WAY from ORIGIN by one TOWN to another; NO_LENGTH: there is none, no such ones.")
    private static void through() {
        KeptWays x = Texts.withNet("towns 4;road 0 1 5;road 1 0 6;road 1 2 7");
        C.due("to 2 by 1", x.through(2, 1), 12);
        C.due("to 0 by 1", x.through(0, 1), 11);
        C.due("to 1 by the origin", x.through(1, 0), 5);
        C.due("to 1 by 1", x.through(1, 1), 5);
        C.due("to 0 by 0", x.through(0, 0), 0);
        C.due("2 does not come to 1", x.through(1, 2), NO);
        C.due("3 has no distance", x.through(1, 3), NO);
        C.due("3 has no distance", x.through(3, 3), NO);
        C.due("to 3", x.through(3, 1), NO);
        for (int t : new int[] {4, -1, Integer.MAX_VALUE, Integer.MIN_VALUE}) {
            C.due("to " + t, x.through(t, 1), NO);
            C.due("by " + t, x.through(1, t), NO);
        }
        KeptWays y = Texts.withNet("towns 3;road 0 1 1000000000;road 1 2 1000000000;road 0 2 1");
        y.lay(2, 0, BILLION);
        C.due("beyond ints", y.through(0, 1), 3_000_000_000L);
    }

    @Says("SHORTCUT of a LENGTH: of ROADS of that LENGTH that might be laid besides (were there room), from a TOWN with a DISTANCE to another one, by which no RING would be of length 0 or less, the one by which DISTANCES of TOWNS that have one would be less by most together (of like ones the least FROM, then TO); none, if none makes them less.")
    private static void shortcuts() {
        KeptWays x = Texts.withNet("towns 3;road 0 1 5;road 1 0 5");
        C.due("a ring of 1", x.shortcut(-4, 2), 9);
        C.due("a ring of 0: not from 0 to 1", x.shortcut(-5, 2), -2);
        C.due("as long as it is", x.shortcut(5, 2), -2);
        C.due("less by 1", x.shortcut(4, 2), 1);
        KeptWays full = Texts.withNet("towns 3");
        for (int i = 0; i < 36; i++) {
            full.lay(0, 1, 5);
        }
        C.due("were there room", full.shortcut(4, 2), 1);
        KeptWays ties = Texts.withNet("towns 4;road 0 1 0;road 0 2 9;road 0 3 9");
        C.due("the least from, and of that the least to", ties.shortcut(1, 0) * 10 + ties.shortcut(1, 1), 2);
        C.due("by 8", ties.shortcut(1, 2), 8);
        KeptWays froms = Texts.withNet("towns 4;road 0 2 0;road 0 1 0;road 0 3 9");
        C.due("0, 1 and 2 to 3: from 0", froms.shortcut(1, 0) * 10 + froms.shortcut(1, 1), 3);
        KeptWays to0 = Texts.withNet("towns 3;road 2 1 4;road 1 0 4");
        to0.origin(2);
        C.due("to town 0: 8 to 1 is more than 4 to 1 with 8 to 5", to0.shortcut(1, 2), 7);
        C.due("from 2 to 0", to0.shortcut(1, 0) * 10 + to0.shortcut(1, 1), 20);
        KeptWays alone = Texts.withNet("towns 3;road 1 2 5");
        C.due("those without a distance do not count", alone.shortcut(-BILLION, 2), -2);
        KeptWays most = Texts.withNet("towns 3;road 0 1 1000000000;road 1 2 1000000000");
        C.due("distances beyond ints", most.shortcut(-BILLION, 2), 4_000_000_000L);
        KeptWays low = Texts.withNet("towns 4;road 0 1 -1000000000;road 1 2 -1000000000;road 0 3 1000000000");
        C.due("too far is not asked: 2 to 3", low.shortcut(-BILLION, 0) * 10 + low.shortcut(-BILLION, 1), 23);
        C.due("from 1,000,000,000 to -3,000,000,000", low.shortcut(-BILLION, 2), 4_000_000_000L);
    }

    @Says(promise = 23, value = "SHORTCUT of a LENGTH, what 0 FROM, 1 TO, 2 by how much (DISTANCES beyond ints, too); -2: there is none; NO_LENGTH: no such ones.")
    private static void shortcut() {
        KeptWays x = Texts.withNet("towns 3;road 0 2 5");
        C.due("from", x.shortcut(4, 0), 0);
        C.due("to", x.shortcut(4, 1), 2);
        C.due("by", x.shortcut(4, 2), 1);
        for (int what = 0; what < 3; what++) {
            C.due("there is none", x.shortcut(5, what), -2);
            C.due("the greatest length", x.shortcut(BILLION, what), -2);
            C.due("no length", x.shortcut(BILLION + 1, what), NO);
            C.due("no length", x.shortcut(-BILLION - 1, what), NO);
        }
        C.due("the least length", x.shortcut(-BILLION, 2), BILLION + 5);
        for (int what : new int[] {3, -1, Integer.MAX_VALUE, Integer.MIN_VALUE}) {
            C.due("shortcut(4, " + what + ")", x.shortcut(4, what), NO);
            C.due("shortcut(5, " + what + ")", x.shortcut(5, what), NO);
        }
    }

    @Says("MEAN: of all RINGS the least length by ROADS in it, a fraction in lowest terms; none.")
    private static void means() {
        KeptWays x = Texts.withNet("towns 12");
        for (int t = 0; t < 12; t++) {
            x.lay(t, (t + 1) % 12, t == 0 ? 2 : t % 2 == 0 ? 5 : -5);
        }
        // 2 and five of 5 and six of -5 would be below 0, so that the last was refused.
        C.due("no ring", x.mean(0), NO);
        C.due("a ring of twelve", x.lay(11, 0, -1), 11);
        C.due("1 above", x.mean(0), 1);
        C.due("12 below", x.mean(1), 12);
        x.length(11, 2);
        C.due("4 by 12 is 1", x.mean(0), 1);
        C.due("by 3", x.mean(1), 3);
        x.length(11, 22);
        C.due("24 by 12 is 2", x.mean(0), 2);
        C.due("by 1", x.mean(1), 1);
        KeptWays y = Texts.withNet("towns 4;road 0 1 1;road 1 0 2;road 2 3 1000000000;road 3 2 1000000000");
        C.due("3", y.mean(0), 3);
        C.due("by 2", y.mean(1), 2);
        y.close(0);
        C.due("where the origin does not come: as long as a road", y.mean(0), BILLION);
        C.due("by 1", y.mean(1), 1);
    }

    @Says(promise = 24, value = "MEAN, what 0 above, 1 below the line; NO_LENGTH: there is no RING, no such what.")
    private static void mean() {
        KeptWays x = Texts.withNet("road 0 1 1;road 1 0 2");
        C.due("above", x.mean(0), 3);
        C.due("below", x.mean(1), 2);
        for (int what : new int[] {2, -1, Integer.MAX_VALUE, Integer.MIN_VALUE}) {
            C.due("mean(" + what + ")", x.mean(what), NO);
        }
        x.close(1);
        C.due("no ring", x.mean(0), NO);
        C.due("no ring", x.mean(1), NO);
    }

    @Says("A ROUND of some TOWNS (at most 6, ORIGIN aside): the least length of WAYS one behind the other from ORIGIN, in some order to each of them, and back; none; its ORDER: of as good ones the first in numbers.")
    private static void rounds() {
        KeptWays x = star();
        C.due("six", x.round(0b0111_1110, 0), 12);
        for (int i = 0; i < 6; i++) {
            C.due("the first in numbers", x.round(0b0111_1110, 1 + i), 1 + i);
        }
        C.due("six and the origin", x.round(0b0111_1111, 0), 12);
        C.due("seven", x.round(0b1111_1110, 0), NO);
        C.due("seven with the origin", x.round(0b1111_1111, 0), NO);
        C.due("another six", x.round(0b1111_1100, 6), 7);
        x.origin(7);
        C.due("seven with another origin", x.round(0b1111_1110, 0), 14);
        C.due("0 is one that counts then", x.round(0b1111_1111, 0), NO);
        C.due("0 alone", x.round(1, 1), 0);
        KeptWays y = Texts.withNet("towns 4;road 0 1 1;road 1 2 1;road 2 0 1;road 0 2 1;road 2 1 1;road 1 0 9");
        C.due("as good ones: none, 1 ahead of 2", y.round(6, 1) * 10 + y.round(6, 2), 12);
        y.length(5, 1);
        C.due("both are 3: the first in numbers", y.round(6, 1) * 10 + y.round(6, 2), 12);
        y.length(0, 2);
        C.due("now 2 ahead of 1 is less", y.round(6, 1) * 10 + y.round(6, 2), 21);
        C.due("one has no way", y.round(14, 0), NO);
        C.due("no way back", Texts.withNet("road 0 1 1").round(2, 0), NO);
    }

    /** Nine towns, 1 to 8 each with a road from 0 and a road back. */
    private static KeptWays star() {
        KeptWays x = Texts.withNet("towns 9");
        for (int t = 1; t < 9; t++) {
            x.lay(0, t, 1);
            x.lay(t, 0, 1);
        }
        return x;
    }

    @Says(promise = 25, value = "A ROUND of TOWNS (bits; ORIGIN's does not count), what 0 its length, 1 + i the i-th TOWN of its ORDER (i 0 to 5; -4: not so many); NO_LENGTH: there is none, no such ones, more than 6.")
    private static void round() {
        KeptWays x = star();
        C.due("nobody", x.round(0, 0), 0);
        C.due("the origin alone", x.round(1, 0), 0);
        for (int i = 0; i < 6; i++) {
            C.due("nobody's order", x.round(0, 1 + i), -4);
            C.due("the origin's order", x.round(1, 1 + i), -4);
            C.due("of two", x.round(0b1_0000_0011, 1 + i), i == 0 ? 1 : i == 1 ? 8 : -4);
        }
        for (int what : new int[] {7, -1, Integer.MAX_VALUE, Integer.MIN_VALUE}) {
            C.due("round(6, " + what + ")", x.round(6, what), NO);
            C.due("round(0, " + what + ")", x.round(0, what), NO);
        }
        for (int towns : new int[] {1 << 9, 1 << 9 | 2, 1 << 31, -1, Integer.MAX_VALUE}) {
            C.due("round(" + towns + ", 0)", x.round(towns, 0), NO);
            C.due("round(" + towns + ", 1)", x.round(towns, 1), NO);
        }
        for (int what = 0; what < 7; what++) {
            C.due("more than 6", x.round(0b1_1111_1110, what), NO);
        }
        x.close(1);
        C.due("no way back", x.round(2, 0), NO);
        C.due("no order", x.round(2, 1), NO);
        KeptWays last = Texts.withNet("towns 12;road 0 11 4;road 11 0 -3");
        C.due("town 11", last.round(1 << 11, 0), 1);
        C.due("town 11", last.round(1 << 11, 1), 11);
        C.due("no town 12", last.round(1 << 12, 0), NO);
    }

    // ---- draws

    @Says("X = (25173 X + 13849) modulo 65536 (THE SEED at first, 1; it stays as it was), ROAD X modulo how many ROADS there are (CLOSED ones, too)")
    private static void draws() {
        // X 1: 39022, then 61087.
        KeptWays x = Texts.withNet("towns 4;road 0 1 5;road 0 2 5;road 0 3 5");
        C.due("39022 modulo 3 is 1: of length 5 + 61087 modulo 41 - 10", x.drawn(1, 2), 5 + 61087 % 41 - 10);
        C.due("not another one", x.drawn(1, 1), 5);
        C.due("X stays", x.count(13), 1);
        x.close(2);
        C.due("a closed one counts", x.drawn(1, 2), 5 + 61087 % 41 - 10);
        C.due("the length stays", x.road(1, 2), 5);
        x.seed(65535);
        // 65535: -25173 + 13849 modulo 65536 is 54212; no product may be too great for an int.
        int first = 54212;
        int second = (int) ((25173L * first + 13849) % 65536);
        C.due("is drawn by hand", second % 8 != 0, true);
        C.due("X 65535: road " + first % 3, x.drawn(1, 1 + first % 3), first % 3 == 2 ? NO : 5 + second % 41 - 10);
        C.due("X stays", x.count(13), 65535);
    }

    @Says("X anew: X modulo 8: 0: it is CLOSED, if it is OPEN, else OPENED; else its LENGTH is X modulo 41 (X as it is then), less 10, more, held to -100 to 10000.")
    private static void drawnLengths() {
        KeptWays x = new KeptWays();
        x.lay(0, 1, 5);
        int closing = seedWhere(0);
        x.seed(closing);
        C.due("closed", x.drawn(1, 1), NO);
        x.close(0);
        C.due("opened", x.drawn(1, 1), 5);
        x.open(0);
        int less = seedWhere(1);
        x.seed(less);
        C.due("10 less", x.drawn(1, 1), -5);
        x.length(0, -90);
        C.due("-100", x.drawn(1, 1), -100);
        x.length(0, -91);
        C.due("held to -100", x.drawn(1, 1), -100);
        x.length(0, -BILLION);
        C.due("held to -100", x.drawn(1, 1), -100);
        int more = seedWhere(2);
        x.seed(more);
        x.length(0, 9970);
        C.due("10000", x.drawn(1, 1), 10000);
        x.length(0, 9971);
        C.due("held to 10000", x.drawn(1, 1), 10000);
        x.length(0, 9969);
        C.due("30 more", x.drawn(1, 1), 9999);
        x.length(0, BILLION);
        C.due("held to 10000", x.drawn(1, 1), 10000);
    }

    /** A seed whose second draw closes (0), is least modulo 41 (1) or is the most (2). */
    private static int seedWhere(int kind) {
        for (int seed = 0; seed < 65536; seed++) {
            long x = (25173L * seed + 13849) % 65536;
            x = (25173 * x + 13849) % 65536;
            boolean closes = x % 8 == 0;
            if (kind == 0 && closes || kind == 1 && !closes && x % 41 == 0 || kind == 2 && !closes && x % 41 == 40) {
                return seed;
            }
        }
        throw new IllegalStateException("no such seed");
    }

    @Says("What would be refused is not done.")
    private static void drawsRefused() {
        KeptWays x = Texts.withNet("road 0 1 5;road 1 0 6");
        x.seed(shorteningSeed(0));
        C.due("10 less, a ring of 1", x.drawn(1, 1), -5);
        x.length(1, 5);
        C.due("a ring of 0: not done", x.drawn(1, 1), 5);
        x.length(1, 4);
        C.due("a ring of -1: not done", x.drawn(1, 1), 5);
        x.close(1);
        C.due("no ring by a closed one", x.drawn(1, 1), -5);
        KeptWays y = Texts.withNet("towns 4;road 0 1 1000000000;road 1 2 1000000000;road 2 3 147483648;road 0 3 1");
        y.seed(closingSeed(4, 3));
        C.due("too far by closing: not done", y.drawn(1, 3), 1);
        y.length(2, 147483647);
        C.due("just not too far", y.drawn(1, 3), Integer.MAX_VALUE);
    }

    /** A seed that draws this one of two roads, to be 10 shorter. */
    private static int shorteningSeed(int road) {
        for (int seed = 0; seed < 65536; seed++) {
            long first = (25173L * seed + 13849) % 65536;
            long second = (25173 * first + 13849) % 65536;
            if (first % 2 == road && second % 8 != 0 && second % 41 == 0) {
                return seed;
            }
        }
        throw new IllegalStateException("no such seed");
    }

    /** A seed that draws this one of so many roads, to be closed or opened. */
    private static int closingSeed(int roads, int road) {
        for (int seed = 0; seed < 65536; seed++) {
            long first = (25173L * seed + 13849) % 65536;
            long second = (25173 * first + 13849) % 65536;
            if (first % roads == road && second % 8 == 0) {
                return seed;
            }
        }
        throw new IllegalStateException("no such seed");
    }

    @Says(promise = 30, value = "DRAWN n times (1 to 60): DISTANCE of a TOWN then; NO_LENGTH: there is none, no such ones, there are no ROADS.")
    private static void drawn() {
        KeptWays x = Texts.withNet("towns 3");
        C.due("no roads", x.drawn(1, 0), NO);
        C.due("no roads", x.drawn(60, 0), NO);
        x.lay(0, 1, 5);
        C.due("once", x.drawn(1, 0), 0);
        C.due("sixty times", x.drawn(60, 0), 0);
        for (int n : new int[] {0, 61, -1, Integer.MAX_VALUE, Integer.MIN_VALUE}) {
            C.due("drawn(" + n + ", 0)", x.drawn(n, 0), NO);
        }
        C.due("no distance", x.drawn(1, 2), NO);
        C.due("no town", x.drawn(1, 3), NO);
        C.due("no town", x.drawn(1, -1), NO);
        x.close(0);
        C.due("no open road: as far as one that is", x.drawn(1, 0), 0);
        C.due("closed, another length", x.drawn(1, 1), NO);
        C.same("all, behind draws,", Answers.all(() -> closedAlone(60)), Answers.all(() -> closedAlone(0)));
    }

    private static KeptWays closedAlone(int draws) {
        KeptWays x = Texts.withNet("towns 3;road 0 1 5");
        x.close(0);
        x.drawn(draws, 1);
        return x;
    }

    @Says(promise = 31, value = "THE SEED (0 to 65535; X, too): true; false: no such number.")
    private static void seed() {
        KeptWays x = new KeptWays();
        C.due("1 at first", x.count(13), 1);
        C.due("0", x.seed(0), true);
        C.due("X", x.count(13), 0);
        C.due("65535", x.seed(65535), true);
        C.due("X", x.count(13), 65535);
        for (int s : new int[] {65536, -1, Integer.MAX_VALUE, Integer.MIN_VALUE}) {
            C.due("seed(" + s + ")", x.seed(s), false);
            C.due("X stays", x.count(13), 65535);
        }
    }
}
