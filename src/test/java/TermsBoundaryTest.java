/** The terms' sentences that name a boundary: towns, roads, rings, changes, who is touched, what is refused. */
public final class TermsBoundaryTest {
    private static final Checker C = new Checker("TermsBoundaryTest");
    private static final long NO = KeptWays.NO_LENGTH;
    private static final int BILLION = 1_000_000_000;

    private TermsBoundaryTest() {
    }

    public static void main(String[] args) {
        Sentences.runAll(TermsBoundaryTest.class, C);
    }

    @Says("An object is used for at most 512 calls after it has been made")
    private static void theLastCall() {
        KeptWays x = new KeptWays();
        x.lay(0, 1, 5);
        for (int i = 0; i < 510; i++) {
            C.due("call " + (i + 2), i % 2 == 0 ? x.close(0) : x.open(0), 1);
        }
        C.due("the 512th call", x.count(5), 511);
    }

    @Says("TOWNS 0 to n less 1 (n 2 to 12; 2 at first).")
    private static void towns() {
        KeptWays x = new KeptWays();
        C.due("2 at first", x.count(0), 2);
        townsAre(x, 2);
        for (int n = 2; n <= 12; n++) {
            KeptWays y = new KeptWays();
            C.due("towns " + n, Texts.net(y, "towns " + n), 1);
            C.due("count", y.count(0), n);
            townsAre(y, n);
        }
        C.due("1 is too few", Texts.net(x, "towns 1"), -3006);
        C.due("13 are too many", Texts.net(x, "towns 13"), -3006);
        C.due("2 still", x.count(0), 2);
    }

    /** Each call that takes a town takes the last one, and none behind it or below 0. */
    private static void townsAre(KeptWays x, int n) {
        int last = n - 1;
        C.due("town, the last", x.town(last, 12), last);
        C.due("between, the last", x.between(last, last), 0);
        C.due("watch, the last", x.watch(last, 0), 1);
        C.due("forget, the last", x.forget(last), true);
        C.due("lay to the last", x.lay(0, last, 5), 0);
        C.due("lay from the last", x.lay(last, 0, 5), 1);
        for (int t : new int[] {n, n + 1, 12, 13, 32, -1, -32, Integer.MAX_VALUE, Integer.MIN_VALUE}) {
            for (int what = 0; what < 16; what++) {
                C.due("town(" + t + ", " + what + ")", x.town(t, what), NO);
            }
            C.due("lay from " + t, x.lay(t, 0, 5), -1);
            C.due("lay to " + t, x.lay(0, t, 5), -1);
            C.due("origin " + t, x.origin(t), -1);
            C.due("way " + t, x.way(t, 0), -1);
            C.due("needed " + t, x.needed(0, t), -1);
            C.due("without " + t, x.without(0, t), NO);
            C.due("between from " + t, x.between(t, 0), NO);
            C.due("between to " + t, x.between(0, t), NO);
            C.due("free " + t, x.free(t, 0), NO);
            C.due("hops " + t, x.hops(t, 1), NO);
            C.due("through " + t, x.through(t, 0), NO);
            C.due("through by " + t, x.through(0, t), NO);
            C.due("watch " + t, x.watch(t, 0), -1);
            C.due("forget " + t, x.forget(t), false);
            C.due("drawn " + t, x.drawn(1, t), NO);
        }
        C.due("the last as the origin", x.origin(last), 2);
    }

    @Says("ROADS, numbered as they were laid, 36 at most")
    private static void roadsAtMost() {
        KeptWays x = Texts.withNet("towns 3");
        for (int r = 0; r < 36; r++) {
            C.due("no road yet", x.road(r, 0), NO);
            C.due("no road yet", x.close(r), -1);
            C.due("laid", x.lay(0, 1, 100 + r), r);
            C.due("its length", x.road(r, 2), 100 + r);
        }
        C.due("a 37th", x.lay(0, 1, 5), -5);
        C.due("36", x.count(1), 36);
        C.due("no road 36", x.road(36, 0), NO);
        for (int r = 0; r < 36; r++) {
            C.due("close " + r, x.close(r) >= 0, true);
            C.due("closed alone", x.count(2), 35);
            C.due("closed", x.road(r, 3), 0);
            C.due("without another", x.without((r + 1) % 36, 1), 100 + (r == 0 ? 2 : r == 35 ? 1 : 0));
            C.due("open " + r, x.open(r) >= 0, true);
            C.due("open", x.road(r, 3), 1);
        }
    }

    @Says("from a TOWN to another one, a LENGTH (-1,000,000,000 to 1,000,000,000)")
    private static void lengths() {
        KeptWays x = Texts.withNet("towns 3");
        C.due("to itself", x.lay(0, 0, 5), -1);
        C.due("to itself", x.lay(2, 2, 5), -1);
        C.due("the longest", x.lay(0, 1, BILLION), 0);
        C.due("its distance", x.town(1, 0), BILLION);
        C.due("the shortest", x.lay(0, 2, -BILLION), 1);
        C.due("its distance", x.town(2, 0), -BILLION);
        C.due("length to the shortest", x.length(0, -BILLION), 1);
        C.due("length to the longest", x.length(0, BILLION), 1);
        C.due("ifLength to the shortest", x.ifLength(0, -BILLION), 1);
        C.due("shortcut of the longest: 2 to 1", x.shortcut(BILLION, 2), BILLION);
        C.due("shortcut of the shortest: 2 to 1", x.shortcut(-BILLION, 2), 3L * BILLION);
        for (int l : new int[] {BILLION + 1, -BILLION - 1, Integer.MAX_VALUE, Integer.MIN_VALUE}) {
            C.due("lay", x.lay(0, 1, l), -1);
            C.due("length", x.length(0, l), -1);
            C.due("ifLength", x.ifLength(0, l), -1);
            C.due("shortcut", x.shortcut(l, 0), NO);
            C.due("watch", x.watch(1, l), -1);
        }
        C.due("the limit may be the greatest", x.watch(1, BILLION), 0);
        C.due("the limit may be the least", x.watch(2, -BILLION), 0);
    }

    @Says("several between the same TOWNS may be.")
    private static void severalRoads() {
        KeptWays x = new KeptWays();
        C.due("one", x.lay(0, 1, 5), 0);
        C.due("as long", x.lay(0, 1, 5), 1);
        C.due("longer", x.lay(0, 1, 6), 2);
        C.due("back", x.lay(1, 0, 5), 3);
        C.due("back again", x.lay(1, 0, 5), 4);
        C.due("five", x.count(2), 5);
        C.due("two tight ones", x.town(1, 3), 2);
    }

    @Says("Below, ROADS are OPEN ones, if nothing else is told.")
    private static void closedRoadsAreNotThere() {
        String due = Answers.figures(() -> layBase(Texts.withNet("towns 5")), 0, 6);
        KeptWays both = layBase(layClosed(Texts.withNet("towns 5"), 7));
        C.due("roads", both.count(1), 26);
        C.due("open ones", both.count(2), 6);
        for (int length : new int[] {-BILLION, -1, 0, 1, 4, 6, BILLION}) {
            C.same("with 20 closed roads of " + length + " ahead",
                Answers.figures(() -> layBase(layClosed(Texts.withNet("towns 5"), length)), 20, 6), due);
            C.same("with 20 closed roads of " + length + " behind",
                Answers.figures(() -> layClosed(layBase(Texts.withNet("towns 5")), length), 0, 6), due);
        }
    }

    private static KeptWays layBase(KeptWays x) {
        int[][] roads = {{0, 1, 5}, {1, 2, 3}, {0, 2, 9}, {2, 3, -2}, {3, 1, 4}, {4, 0, 2}};
        for (int[] r : roads) {
            C.holds("laid", x.lay(r[0], r[1], r[2]) >= 0);
        }
        x.watch(2, 7);
        return x;
    }

    /** A closed road from each of five towns to each other one. */
    private static KeptWays layClosed(KeptWays x, int length) {
        for (int a = 0; a < 5; a++) {
            for (int b = 0; b < 5; b++) {
                if (a != b) {
                    int laid = x.lay(a, b, BILLION - 1);
                    C.holds("laid and closed", laid >= 0 && x.close(laid) >= 0 && x.length(laid, length) == 0);
                }
            }
        }
        return x;
    }

    @Says("A WAY: ROADS one behind the other (none, too)")
    private static void aWayOfNoRoads() {
        KeptWays x = new KeptWays();
        C.due("distance of the origin", x.town(0, 0), 0);
        C.due("roads of the way", x.town(0, 2), 0);
        C.due("ways as short", x.town(0, 4), 1);
        C.due("between 1 and 1", x.between(1, 1), 0);
        C.due("group of 1", x.town(1, 12), 1);
        C.due("of no roads", x.hops(0, 0), 0);
        C.due("of no roads to 1", x.hops(1, 0), NO);
        C.due("with none free", x.free(0, 0), 0);
        C.due("by 0 to 0", x.through(0, 0), 0);
        C.due("1 meets itself", x.meet(2, 0), 1);
        C.due("by nothing", x.meet(2, 1), 0);
        C.due("a round of nobody", x.round(0, 0), 0);
    }

    @Says("A RING: a WAY of one ROAD or more from a TOWN to itself by no TOWN twice.")
    private static void ringsHaveRoads() {
        KeptWays x = Texts.withNet("towns 3;road 0 1 1;road 1 0 2;road 1 2 4");
        C.due("the way of no roads is no ring", x.town(2, 9), NO);
        C.due("the ring of 0", x.town(0, 9), 3);
        C.due("the ring of 1", x.town(1, 9), 3);
        C.due("another one by 1", x.lay(2, 1, 5), 3);
        C.due("the ring of 2 does not go by 0", x.town(2, 9), 9);
        C.due("the ring of 1 stays", x.town(1, 9), 3);
        C.due("no ring at all", Texts.withNet("towns 3;road 0 1 1;road 1 2 1;road 0 2 1").mean(0), NO);
    }

    @Says("No RING is of length 0 or less.")
    private static void ringsOfNothing() {
        KeptWays x = Texts.withNet("towns 12");
        for (int t = 0; t < 11; t++) {
            C.due("chain", x.lay(t, t + 1, t % 2 == 0 ? 7 : -5), t);
        }
        // Six roads of 7 and five of -5: 17 in all.
        C.due("a ring of -1", x.lay(11, 0, -18), -3);
        C.due("a ring of 0", x.lay(11, 0, -17), -3);
        C.due("a ring of 1", x.lay(11, 0, -16), 11);
        C.due("through 0", x.town(0, 9), 1);
        C.due("through 11", x.town(11, 9), 1);
        C.due("to 0", x.length(5, -6), -3);
        C.due("below 0", x.length(5, -BILLION), -3);
        C.due("of two roads, 0", x.lay(1, 0, -7), -3);
        C.due("of two roads, 1", x.lay(1, 0, -6), 12);
        for (int t = 0; t < 12; t++) {
            C.holds("all rings are above 0", x.town(t, 9) > 0);
        }
    }

    @Says("ORIGIN is a TOWN (0 at first).")
    private static void originAtFirst() {
        KeptWays x = new KeptWays();
        C.due("origin", x.count(3), 0);
        C.due("it is that", x.origin(0), -2);
        C.due("the last town", x.origin(1), 2);
        C.due("origin", x.count(3), 1);
    }

    @Says("DISTANCE of a TOWN: the least length of a WAY from ORIGIN to it; none.")
    private static void distanceOrNone() {
        KeptWays x = Texts.withNet("towns 3;road 0 1 5;road 2 1 1");
        C.due("of the origin", x.town(0, 0), 0);
        C.due("of 1", x.town(1, 0), 5);
        C.due("of 2: none", x.town(2, 0), NO);
        C.due("a way that is longer than another of fewer roads", x.lay(1, 2, 0), 2);
        C.due("a length of 0", x.town(2, 0), 5);
        C.due("below 0", x.length(0, -5), 2);
        C.due("of 1", x.town(1, 0), -5);
        C.due("the origin's stays 0", x.town(0, 0), 0);
    }

    @Says("All DISTANCES are ints.")
    private static void distancesAreInts() {
        for (int sign : new int[] {1, -1}) {
            int edge = sign > 0 ? 147483647 : -147483648;
            KeptWays x = Texts.withNet("towns 5;road 0 1 " + sign * BILLION + ";road 1 2 " + sign * BILLION);
            C.due("lay, too far", x.lay(2, 3, edge + sign), -4);
            C.due("lay, just not", x.lay(2, 3, edge), 2);
            C.due("its distance", x.town(3, 0), sign > 0 ? Integer.MAX_VALUE : Integer.MIN_VALUE);
            C.due("one more behind it", x.lay(3, 4, sign), -4);
            C.due("as far", x.lay(3, 4, 0), 3);
            C.due("length, too far", x.length(2, edge + sign), -4);
            C.due("distance stays", x.town(4, 0), sign > 0 ? Integer.MAX_VALUE : Integer.MIN_VALUE);
            C.due("length, nearer", x.length(2, edge - sign), 2);
            C.due("length, to the edge again", x.length(2, edge), 2);
            C.due("closed", x.close(2), 2);
            C.due("any length while closed", x.length(2, edge + sign), 0);
            C.due("open, too far", x.open(2), -4);
            C.due("the edge", x.length(2, edge), 0);
            C.due("open, just not", x.open(2), 2);
        }
    }

    @Says("-4: a DISTANCE would be no int.")
    private static void tooFarByClosingOrByTheOrigin() {
        KeptWays x = Texts.withNet("towns 4;road 0 3 1;road 0 1 1000000000;road 1 2 1000000000;road 2 3 147483648");
        C.due("close, too far", x.close(0), -4);
        C.due("open still", x.road(0, 3), 1);
        C.due("the edge", x.length(3, 147483647), 0);
        C.due("close, just not", x.close(0), 1);
        C.due("its distance", x.town(3, 0), Integer.MAX_VALUE);
        KeptWays y = Texts.withNet("towns 4;road 1 2 -1000000000;road 2 3 -1000000000;road 3 0 -147483649");
        C.due("origin, too low", y.origin(1), -4);
        C.due("origin stays", y.count(3), 0);
        C.due("the edge", y.length(2, -147483648), 0);
        C.due("origin, just not", y.origin(1), 4);
        C.due("its distance", y.town(0, 0), Integer.MIN_VALUE);
        KeptWays z = Texts.withNet("towns 4;road 1 2 1000000000;road 2 3 1000000000;road 3 0 147483648");
        C.due("origin, too far", z.origin(1), -4);
        C.due("another one is fine", z.origin(2), 3);
    }

    @Says("CHANGES: LAY (a ROAD, OPEN), LENGTH (another one), CLOSE, OPEN, ORIGIN (another one).")
    private static void changes() {
        KeptWays x = Texts.withNet("towns 3;road 0 1 5");
        C.due("lay", x.lay(1, 2, 4), 1);
        C.due("is open", x.road(1, 3), 1);
        C.due("turn", x.count(5), 1);
        C.due("the length that it has", x.length(1, 4), -2);
        C.due("turn", x.count(5), 1);
        C.due("another one", x.length(1, 3), 1);
        C.due("turn", x.count(5), 2);
        C.due("opened though open", x.open(1), -2);
        C.due("close", x.close(1), 1);
        C.due("turn", x.count(5), 3);
        C.due("closed though closed", x.close(1), -2);
        C.due("the length that it has, closed", x.length(1, 3), -2);
        C.due("another one, closed", x.length(1, 2), 0);
        C.due("turn", x.count(5), 4);
        C.due("open", x.open(1), 1);
        C.due("turn", x.count(5), 5);
        C.due("the origin that it is", x.origin(0), -2);
        C.due("another one", x.origin(2), 3);
        C.due("turn", x.count(5), 6);
    }

    @Says("-3: a RING would be of length 0 or less by it (CLOSED ROADS aside: their LENGTHS may be any)")
    private static void ringsWithClosedRoads() {
        KeptWays x = Texts.withNet("road 0 1 5;road 1 0 5");
        C.due("to 0", x.length(1, -5), -3);
        C.due("to 1", x.length(1, -4), 0);
        C.due("closed", x.close(1), 0);
        C.due("to 0, closed", x.length(1, -5), 0);
        C.due("to much less, closed", x.length(1, -BILLION), 0);
        C.due("the other one, as this is closed", x.length(0, -BILLION), 1);
        C.due("opened", x.open(1), -3);
        C.due("the other one closed, too", x.close(0), 1);
        C.due("this one alone makes no ring", x.open(1), 0);
        C.due("then that one can't be opened", x.open(0), -3);
        C.due("a ring of 0", x.length(0, BILLION), 0);
        C.due("not opened", x.open(0), -3);
        C.due("longer by 1", x.length(1, -BILLION + 1), 0);
        C.due("a ring of 1", x.open(0), 1);
        C.due("laid beside a closed one", closedBeside().lay(1, 0, -BILLION), 1);
    }

    private static KeptWays closedBeside() {
        KeptWays x = Texts.withNet("road 0 1 5");
        x.close(0);
        return x;
    }

    @Says("TOUCHED are TOWNS whose DISTANCES are others behind the latest CHANGE that was done (also none to some, some to none)")
    private static void touched() {
        KeptWays x = Texts.withNet("towns 3");
        C.due("nobody at first", x.touched(0), -4);
        C.due("none to some", x.lay(0, 1, 0), 0);
        C.due("touched", x.count(4), 1);
        C.due("who", x.touched(0), 1);
        C.due("not done", x.lay(1, 0, 0), -3);
        C.due("who, still", x.touched(0), 1);
        C.due("some to none", x.close(0), 1);
        C.due("who", x.touched(0), 1);
        C.due("as it is", x.close(0), -2);
        C.due("touched, still", x.count(4), 1);
        C.due("done, but no distance is another", x.length(0, 7), 0);
        C.due("nobody", x.count(4), 0);
        C.due("some again", x.open(0), 1);
        C.due("no change", x.watch(1, 3), 1);
        C.due("touched, still", x.count(4), 1);
        C.due("another parent, but no other distance", x.lay(0, 1, 7), 1);
        C.due("nobody", x.count(4), 0);
        C.due("the lower one closed", x.close(0), 0);
        C.due("by another parent", x.town(1, 1), 1);
    }

    @Says("in order: by their DISTANCES then, of like ones by numbers, those without behind, by numbers.")
    private static void touchedInOrder() {
        KeptWays x = Texts.withNet("towns 7;road 1 4 3;road 1 2 3;road 1 6 -2;road 0 5 1;road 0 3 1");
        C.due("all seven", x.origin(1), 7);
        int[] due = {6, 1, 2, 4, 0, 3, 5};
        for (int i = 0; i < 7; i++) {
            C.due("touched(" + i + ")", x.touched(i), due[i]);
        }
        C.due("touched(7)", x.touched(7), -4);
        C.due("all seven again", x.origin(0), 7);
        int[] back = {0, 3, 5, 1, 2, 4, 6};
        for (int i = 0; i < 7; i++) {
            C.due("touched(" + i + ")", x.touched(i), back[i]);
        }
        KeptWays all = Texts.withNet("towns 12");
        for (int t = 0; t < 11; t++) {
            all.lay(11, t, 1 + t % 3);
        }
        C.due("all twelve", all.origin(11), 12);
        int[] twelve = {11, 0, 3, 6, 9, 1, 4, 7, 10, 2, 5, 8, -4};
        for (int i = 0; i < 13; i++) {
            C.due("touched(" + i + ") of twelve", all.touched(i), twelve[i]);
        }
    }

    @Says("TURN: how many CHANGES were done.")
    private static void turn() {
        KeptWays x = Texts.withNet("towns 3;road 0 1 5;road 1 0 5");
        C.due("none", x.count(5), 0);
        int[] refused = {x.lay(1, 0, -5), x.lay(0, 0, 1), x.length(0, 5), x.length(0, -5), x.length(2, 1), x.open(0),
            x.close(2), x.origin(0), x.origin(3), x.ifLength(0, 7)};
        C.due("refused or aside", x.count(5), 0);
        C.due("how many", refused.length, 10);
        x.watch(1, 2);
        x.forget(1);
        x.seed(5);
        x.keep();
        C.due("no changes", x.count(5), 0);
        C.due("orders", Texts.orders(x, "watch 1 2;close 0;open 0;forget 1;length 0 6"), 5);
        C.due("three changes", x.count(5), 3);
    }

    @Says("A call that is refused (NONE, -2 to -9, false) changes nothing but the tape, where it is told.")
    private static void refusedChangesNothing() {
        String before = Answers.all(() -> busyAndFed());
        C.same("all, behind what was refused,", Answers.all(() -> refusedOften(busyAndFed())), before);
        C.due("what was kept is kept", refusedOften(busyAndFed()).undo(), true);
    }

    private static KeptWays busyAndFed() {
        KeptWays x = busy();
        for (int i = 0; i < 12; i++) {
            x.feed(-1, 0, 0, 0, 0);
        }
        return x;
    }

    private static KeptWays refusedOften(KeptWays x) {
        int[] refused = {x.feed(1, 2, 3, 4, 5), x.net(0), x.net(201), x.net(-1), x.orders(0), x.orders(201), x.check(-1),
            x.check(13), x.lay(0, 4, 1), x.lay(0, 0, 1), x.lay(0, 1, BILLION + 1), x.lay(2, 0, -40), x.length(0, 6),
            x.length(6, 1), x.length(1, -40), x.close(4), x.close(6), x.open(0), x.open(6), x.open(4), x.origin(0),
            x.origin(4), x.watch(4, 0), x.watch(0, BILLION + 1), x.ifLength(0, 6), x.ifLength(4, 6), x.ifLength(1, -40),
            x.count(14), x.touched(-1), x.touched(12), x.way(0, 0), x.way(4, 0), x.needed(4, 0)};
        for (int i = 0; i < refused.length; i++) {
            C.holds("refused is " + i + ": " + refused[i], refused[i] < 0);
        }
        boolean[] not = {x.forget(0), x.forget(4), x.seed(-1), x.seed(65536)};
        for (int i = 0; i < not.length; i++) {
            C.due("not done: " + i, not[i], false);
        }
        return x;
    }

    @Says("A call that is refused (NONE, -2 to -9, false) changes nothing but the tape, where it is told.")
    private static void refusedTextsEmptyTheTape() {
        String before = Answers.all(() -> busy());
        String[] nets = {"x", "towns 13", "towns 00000000002", "road 0 0 1", "road 0 1 1;road 1 0 -1",
            "towns 4;road 0 1 1000000000;road 1 2 1000000000;road 2 3 1000000000", "towns 3;road 0 1 1;"};
        int[] due = {-1000, -3006, -2016, -6007, -3, -4, -1019};
        for (int i = 0; i < nets.length; i++) {
            int at = i;
            C.same("all, behind the net " + nets[i] + ",", Answers.all(() -> behindNet(nets[at], due[at])), before);
        }
        String[] orders = {"x", "origin 4", "close 00000000000", "lay 1 1 1", "origin 1;watch 0 1;close 0;"};
        int[] dueOrders = {-1000, -3007, -2016, -6006, -1027};
        for (int i = 0; i < orders.length; i++) {
            int at = i;
            C.same("all, behind the orders " + orders[i] + ",", Answers.all(() -> behindOrders(orders[at], dueOrders[at])), before);
        }
        C.same("all, behind orders none of which was done,", Answers.all(() -> behindOrders("open 0;origin 1", 0)), before);
        C.due("what was kept is kept", behindOrders("origin 4", -3007).undo(), true);
        C.due("what was kept is kept", behindNet("towns 13", -3006).undo(), true);
    }

    private static KeptWays behindNet(String text, int due) {
        KeptWays x = busy();
        C.due("net " + text, Texts.net(x, text), due);
        return x;
    }

    private static KeptWays behindOrders(String text, int due) {
        KeptWays x = busy();
        C.due("orders " + text, Texts.orders(x, text), due);
        return x;
    }

    /** A net with all that can be lost: a closed road, touched ones, watches, events, X, something kept. */
    private static KeptWays busy() {
        KeptWays x = Texts.withNet("towns 4;road 0 1 5;road 1 2 3;road 0 2 9;road 2 3 -2;road 3 0 -5;road 3 1 20");
        x.seed(77);
        x.keep();
        x.close(4);
        x.length(4, -30);
        x.watch(1, 5);
        x.watch(3, 6);
        x.length(0, 6);
        C.due("events", x.count(8), 2);
        C.due("touched", x.count(4), 3);
        return x;
    }

    @Says("Of several reasons NONE comes first.")
    private static void noneComesFirst() {
        KeptWays x = Texts.withNet("towns 3;road 0 1 5;road 1 0 5");
        C.due("no length, though a ring, too", x.length(1, -BILLION - 1), -1);
        C.due("no length, though a ring, too", x.lay(1, 0, -BILLION - 1), -1);
        for (int r = 2; r < 36; r++) {
            x.lay(0, 1, 5);
        }
        C.due("no town, though there are 36", x.lay(3, 0, 1), -1);
        C.due("no length, though there are 36", x.lay(1, 0, BILLION + 1), -1);
        C.due("to itself, though there are 36", x.lay(1, 1, 1), -1);
        C.due("36", x.lay(1, 0, 1), -5);
        x.close(1);
        C.due("no length, though closed", x.ifLength(1, BILLION + 1), -1);
        C.due("no distance, though not so many", x.way(2, 5), -1);
        C.due("below 0, though not so many", x.touched(-1), -1);
    }
}
