/** Promises 10 to 15 and 17 to 25, 30 and 31: all that is asked and changes nothing. */
public final class FigurePromisesTest {
    private static final Checker C = new Checker("FigurePromisesTest");
    private static final long NO = KeptWays.NO_LENGTH;
    private static final int BILLION = 1_000_000_000;
    private static final String FIVE = "towns 4;road 0 1 5;road 1 2 3;road 0 2 9;road 2 3 -2;road 3 1 4";

    private FigurePromisesTest() {
    }

    public static void main(String[] args) {
        count();
        road();
        change();
        townAndTree();
        townTies();
        townDearest();
        townNext();
        townReachAndRing();
        townGroupAndNarrow();
        townApart();
        way();
        needed();
        without();
        between();
        free();
        hops();
        meet();
        through();
        shortcut();
        mean();
        round();
        drawn();
        seed();
        C.end();
    }

    private static void count() {
        KeptWays x = Texts.withNet(FIVE);
        x.close(2);
        x.watch(3, 5);
        x.watch(0, 5);
        x.length(3, -1);
        x.feed(0, 0, 0, 0, 0);
        x.seed(65535);
        int[] due = {4, 5, 4, 0, 1, 2, 4, 3, 0, 9, 8, 0, 20, 65535};
        for (int i = 0; i < due.length; i++) {
            C.due("count(" + i + ")", x.count(i), due[i]);
        }
        C.due("no what", x.count(14), -1);
        C.due("no what", x.count(-1), -1);
        x.origin(1);
        C.due("origin", x.count(3), 1);
        C.due("touched", x.count(4), 4);
        C.due("events: 0 has no distance, 3 is below", x.count(8), 2);
        C.due("distances", x.count(6), 3);
        KeptWays y = Texts.withNet("towns 3;road 0 1 4;road 1 0 3;road 1 2 1;road 2 1 3;road 2 0 9");
        C.due("middle: reaches 5, 3, 6", y.count(11), 1);
        y.length(0, 2);
        C.due("middle: reaches 3, 3, 6", y.count(11), 0);
        y.close(1);
        y.close(4);
        C.due("middle: 0 alone comes to all", y.count(11), 0);
        y.close(0);
        C.due("no middle", y.count(11), -2);
        C.due("middle below 0", Texts.withNet("road 0 1 -5;road 1 0 6").count(11), 0);
    }

    private static void road() {
        KeptWays x = Texts.withNet("towns 3;road 0 1 5;road 0 1 5;road 1 2 -3;road 2 1 4");
        long[][] due = {{0, 1, 5, 1, 1, 1}, {0, 1, 5, 1, 1, 0}, {1, 2, -3, 1, 1, 1}, {2, 1, 4, 1, 0, 0}};
        for (int r = 0; r < 4; r++) {
            for (int what = 0; what < 6; what++) {
                C.due("road(" + r + ", " + what + ")", x.road(r, what), due[r][what]);
            }
        }
        x.close(0);
        C.due("closed: from", x.road(0, 0), 0);
        C.due("closed: length", x.road(0, 2), 5);
        C.due("closed: open", x.road(0, 3), 0);
        C.due("closed: tight", x.road(0, 4), 0);
        C.due("closed: parent", x.road(0, 5), 0);
        C.due("now a parent", x.road(1, 5), 1);
        x.origin(2);
        C.due("from without distance", x.road(1, 4), 0);
        C.due("no road", x.road(4, 0), NO);
        C.due("no road", x.road(-1, 0), NO);
        C.due("no what", x.road(0, 6), NO);
        C.due("no what", x.road(0, -1), NO);
    }

    private static void change() {
        KeptWays x = Texts.withNet("towns 4;road 0 1 5;road 0 1 5;road 1 2 -3;road 0 2 4;road 3 2 1;road 2 0 1");
        long[][] due = {{0, -1, 0}, {0, -1, 0}, {0, 0, 0}, {2, -1, 2}, {NO, -1, -1}, {3, -1, 3}};
        for (int r = 0; r < 6; r++) {
            for (int what = 0; what < 3; what++) {
                C.due("change(" + r + ", " + what + ")", x.change(r, what), due[r][what]);
            }
        }
        x.close(1);
        C.due("the one tight road", x.change(0, 1), 0);
        for (int what = 0; what < 3; what++) {
            C.due("closed", x.change(1, what), NO);
            C.due("no road", x.change(6, what), NO);
            C.due("no road", x.change(-1, what), NO);
        }
        C.due("no what", x.change(0, 3), NO);
        C.due("no what", x.change(0, -1), NO);
        C.due("no what, no slack", x.change(4, 3), NO);
    }

    private static void townAndTree() {
        KeptWays x = Texts.withNet("towns 6;road 0 1 5;road 1 2 3;road 0 2 8;road 2 3 -2;road 3 4 4;road 5 4 1");
        long[][] due = {
            {0, -2, 0, 0, 1}, {5, 0, 1, 1, 1}, {8, 1, 2, 2, 2}, {6, 3, 3, 1, 2}, {10, 4, 4, 1, 2}, {NO, -2, -2, 0, 0}};
        int[] below = {4, 3, 2, 1, 0, 0};
        for (int t = 0; t < 6; t++) {
            for (int what = 0; what < 5; what++) {
                C.due("town(" + t + ", " + what + ")", x.town(t, what), due[t][what]);
            }
            C.due("below " + t, x.town(t, 11), below[t]);
        }
        C.due("comers to 0", x.town(0, 15), 0);
        C.due("comers to 4", x.town(4, 15), 5);
        C.due("comers to 5", x.town(5, 15), 0);
        x.origin(1);
        C.due("parent of the origin", x.town(1, 1), -2);
        C.due("below the origin", x.town(1, 11), 3);
        C.due("below one without distance", x.town(0, 11), 0);
        for (int what = -1; what <= 16; what++) {
            C.due("no town", x.town(6, what), NO);
            C.due("no town", x.town(-1, what), NO);
        }
        C.due("no what", x.town(0, 16), NO);
        C.due("no what", x.town(0, -1), NO);
    }

    private static void townTies() {
        KeptWays x = Texts.withNet("towns 12");
        int laid = 0;
        for (int t = 0; t < 11; t++) {
            for (int i = 0; i < 3; i++) {
                x.lay(t, t + 1, t % 2 == 0 ? 7 : -6);
                laid++;
            }
        }
        C.due("roads", laid, 33);
        C.due("3 to the 11th", x.town(11, 4), 177147);
        C.due("none is needed", x.town(11, 5), 0);
        C.due("tight", x.count(7), 33);
        C.due("next of many ties", x.town(11, 7), NO);
        x.lay(3, 5, 4);
        C.due("next of many ties", x.town(11, 7), x.town(11, 0) + 3);
        x.length(33, 1);
        C.due("more ways by one as short", x.town(11, 4), 177147 + 177147 / 9);
        KeptWays y = Texts.withNet("towns 4;road 0 1 1;road 1 2 1;road 1 2 1;road 2 3 1");
        C.due("needed for 3", y.town(3, 5), 2);
        C.due("needed for 0", y.town(0, 5), 0);
        y.close(3);
        C.due("needed without a way", y.town(3, 5), -2);
    }

    private static void townDearest() {
        KeptWays x = Texts.withNet("towns 4;road 2 3 1;road 0 1 1;road 1 2 1;road 0 1 5;road 1 2 7;road 2 3 7");
        C.due("dearest: 7 in place of 3, 9, 9", x.town(3, 6), 0);
        x.length(4, 8);
        C.due("dearest: 10", x.town(3, 6), 2);
        x.close(3);
        C.due("none is more than any", x.town(3, 6), 1);
        x.close(5);
        C.due("of like ones the lowest", x.town(3, 6), 0);
        C.due("no road", x.town(0, 6), -2);
        x.close(1);
        C.due("no way", x.town(3, 6), -2);
    }

    private static void townNext() {
        KeptWays x = Texts.withNet(FIVE);
        C.due("next of 2", x.town(2, 7), 9);
        C.due("next of 3", x.town(3, 7), 7);
        C.due("next of 1 by all others", x.town(1, 7), 11);
        C.due("next of the origin", x.town(0, 7), NO);
        x.lay(0, 1, 5);
        C.due("as short is not longer", x.town(1, 7), 11);
        x.lay(0, 1, 6);
        C.due("a road beside", x.town(1, 7), 6);
        // A ring by the way would be shorter, but goes by a town twice.
        KeptWays y = Texts.withNet("towns 4;road 0 1 1;road 1 2 1;road 2 1 1;road 0 2 100;road 2 3 1");
        C.due("no town twice", y.town(2, 7), 100);
        C.due("no town twice", y.town(3, 7), 101);
        C.due("no way, no next", Texts.withNet("towns 3;road 0 1 1").town(2, 7), NO);
        C.due("one way, no next", Texts.withNet("towns 3;road 0 1 1").town(1, 7), NO);
        KeptWays z = Texts.withNet("road 0 1 1;road 1 0 1");
        C.due("the origin has no next", z.town(0, 7), NO);
        KeptWays far = Texts.withNet("towns 5;road 0 4 0;road 0 1 1000000000;road 1 2 1000000000");
        far.lay(2, 3, 0);
        far.lay(3, 4, BILLION);
        C.due("next beyond ints", far.town(4, 7), 3L * BILLION);
    }

    private static void townReachAndRing() {
        KeptWays x = Texts.withNet(FIVE);
        long[] reach = {8, 3, 2, 7};
        long[] ring = {NO, 5, 5, 5};
        for (int t = 0; t < 4; t++) {
            C.due("reach of " + t, x.town(t, 8), reach[t]);
            C.due("ring of " + t, x.town(t, 9), ring[t]);
        }
        KeptWays y = Texts.withNet("towns 3;road 0 1 -7;road 1 0 9;road 0 1 -5");
        C.due("reach below 0", y.town(0, 8), -7);
        C.due("no reach", y.town(2, 8), NO);
        C.due("ring", y.town(1, 9), 2);
        y.close(0);
        C.due("ring", y.town(0, 9), 4);
        y.close(1);
        C.due("no ring", y.town(0, 9), NO);
    }

    private static void townGroupAndNarrow() {
        KeptWays x = Texts.withNet("towns 6;road 3 1 1;road 1 5 1;road 5 3 1;road 0 3 9;road 0 4 2;road 4 1 -1;road 3 4 20");
        int[] group = {0, 1, 2, 1, 1, 1};
        long[] narrow = {NO, 2, NO, 2, 2, 2};
        for (int t = 0; t < 6; t++) {
            C.due("group of " + t, x.town(t, 12), group[t]);
            C.due("narrow of " + t, x.town(t, 13), narrow[t]);
        }
        x.length(4, 30);
        C.due("narrow by 0 3 1", x.town(1, 13), 9);
        C.due("narrow by 0 3 4", x.town(4, 13), 20);
        KeptWays y = Texts.withNet("towns 3;road 0 1 -5;road 1 2 -6;road 2 0 1000000000;road 0 2 3");
        C.due("narrow below 0", y.town(2, 13), -5);
        C.due("narrow of the origin", y.town(0, 13), NO);
        KeptWays z = Texts.withNet("towns 3;road 0 1 -1000000000");
        C.due("narrow of the least length", z.town(1, 13), -BILLION);
    }

    private static void townApart() {
        // The least way 0 1 2 3 must give up its middle road for two to be apart.
        KeptWays x = Texts.withNet("towns 4;road 0 1 1;road 1 2 1;road 2 3 1;road 0 2 5;road 1 3 5");
        C.due("apart with a road given up", x.town(3, 14), 12);
        C.due("apart to 2", x.town(2, 14), 7);
        C.due("no second way", x.town(1, 14), NO);
        C.due("origin", x.town(0, 14), 0);
        x.close(3);
        C.due("one road in common", x.town(3, 14), NO);
        KeptWays y = Texts.withNet("towns 3;road 0 1 4;road 0 1 4;road 1 2 -9");
        C.due("two of one length", y.town(1, 14), 8);
        C.due("one alone to 2", y.town(2, 14), NO);
        C.due("no way at all", Texts.withNet("towns 3").town(2, 14), NO);
    }

    private static void way() {
        KeptWays x = Texts.withNet(FIVE);
        int[] due = {0, 1, 3, -4, -4};
        for (int i = 0; i < due.length; i++) {
            C.due("way(3, " + i + ")", x.way(3, i), due[i]);
        }
        C.due("of the origin", x.way(0, 0), -4);
        C.due("no i", x.way(3, -1), -1);
        C.due("no i, of the origin", x.way(0, -1), -1);
        C.due("no town", x.way(4, 0), -1);
        C.due("no town", x.way(-1, 0), -1);
        C.due("far i", x.way(3, Integer.MAX_VALUE), -4);
        x.origin(3);
        C.due("no distance", x.way(0, 0), -1);
        C.due("way from 3", x.way(2, 0) * 10 + x.way(2, 1), 41);
    }

    private static void needed() {
        KeptWays x = Texts.withNet("towns 4;road 0 1 1;road 1 2 1;road 1 2 1;road 2 3 1;road 0 3 4");
        int[] due = {1, 0, 0, 1, 0};
        for (int r = 0; r < 5; r++) {
            C.due("needed(" + r + ", 3)", x.needed(r, 3), due[r]);
            C.due("needed(" + r + ", 0)", x.needed(r, 0), 0);
        }
        C.due("road 3 for 2", x.needed(3, 2), 0);
        C.due("no road", x.needed(5, 3), -1);
        C.due("no road", x.needed(-1, 3), -1);
        C.due("no town", x.needed(0, 4), -1);
        C.due("no town", x.needed(0, -1), -1);
        x.close(1);
        C.due("closed", x.needed(1, 3), -1);
        C.due("now needed", x.needed(2, 3), 1);
        x.origin(2);
        C.due("no distance", x.needed(0, 1), -1);
    }

    private static void without() {
        KeptWays x = Texts.withNet(FIVE);
        C.due("by the others", x.without(0, 1), 11);
        C.due("by the others", x.without(1, 2), 9);
        C.due("not touched", x.without(2, 2), 8);
        C.due("none", x.without(3, 3), NO);
        C.due("origin", x.without(0, 0), 0);
        C.due("no road", x.without(5, 0), NO);
        C.due("no road", x.without(-1, 0), NO);
        C.due("no town", x.without(0, 4), NO);
        C.due("no town", x.without(0, -1), NO);
        C.due("open still", x.road(0, 3), 1);
        x.close(2);
        C.due("closed", x.without(2, 2), NO);
        KeptWays y = Texts.withNet("towns 4;road 0 3 1;road 0 1 1000000000;road 1 2 1000000000;road 2 3 1000000000");
        C.due("beyond ints", y.without(0, 3), 3L * BILLION);
    }

    private static void between() {
        KeptWays x = Texts.withNet(FIVE);
        C.due("1 to 3", x.between(1, 3), 1);
        C.due("3 to 2", x.between(3, 2), 7);
        C.due("to itself", x.between(3, 3), 0);
        C.due("none", x.between(3, 0), NO);
        C.due("no from", x.between(4, 0), NO);
        C.due("no from", x.between(-1, 0), NO);
        C.due("no to", x.between(0, 4), NO);
        C.due("no to", x.between(0, -1), NO);
        x.length(3, 2);
        C.due("behind a change", x.between(1, 3), 5);
        KeptWays y = Texts.withNet("towns 5;road 1 2 1000000000;road 2 3 1000000000;road 3 4 1000000000");
        C.due("beyond ints", y.between(1, 4), 3L * BILLION);
    }

    private static void free() {
        KeptWays x = Texts.withNet("towns 4;road 0 1 5;road 1 2 3;road 2 3 4;road 0 3 9;road 1 3 -1");
        long[] due = {4, -1, -1, -1};
        for (int some = 0; some < 4; some++) {
            C.due("free(3, " + some + ")", x.free(3, some), due[some]);
        }
        C.due("free(2, 0)", x.free(2, 0), 8);
        C.due("free(2, 1)", x.free(2, 1), 3);
        C.due("free(2, 2)", x.free(2, 2), 0);
        C.due("no some", x.free(2, 4), NO);
        C.due("no some", x.free(2, -1), NO);
        C.due("no town", x.free(4, 0), NO);
        C.due("no town", x.free(-1, 0), NO);
        KeptWays ring = Texts.withNet("towns 3;road 0 1 10;road 1 0 -9");
        long[] origin = {0, -9, -18, -27};
        for (int some = 0; some < 4; some++) {
            C.due("each time counts: free(0, " + some + ")", ring.free(0, some), origin[some]);
        }
        C.due("then once more", ring.free(1, 2), -9);
        C.due("no way", ring.free(2, 3), NO);
        KeptWays zero = Texts.withNet("road 0 1 0");
        C.due("a length of 0 stays", zero.free(1, 3), 0);
        zero.length(0, -4);
        C.due("below 0 stays", zero.free(1, 3), -4);
    }

    private static void hops() {
        KeptWays x = Texts.withNet("towns 4;road 0 1 1;road 1 2 1;road 2 3 1;road 0 2 5;road 0 3 9");
        long[] due = {NO, 9, 6, 3, 3};
        for (int most = 0; most < 5; most++) {
            C.due("hops(3, " + most + ")", x.hops(3, most), due[most]);
        }
        C.due("36", x.hops(3, 36), 3);
        C.due("37", x.hops(3, 37), NO);
        C.due("-1", x.hops(3, -1), NO);
        C.due("origin", x.hops(0, 0), 0);
        C.due("no town", x.hops(4, 1), NO);
        C.due("no town", x.hops(-1, 1), NO);
        C.due("no way", Texts.withNet("towns 3;road 0 1 1").hops(2, 36), NO);
    }

    private static void meet() {
        KeptWays x = Texts.withNet("towns 5;road 0 2 4;road 1 2 4;road 0 3 1;road 1 3 6;road 2 4 1;road 3 4 9");
        C.due("sum: 3 by 1 + 6", x.meet(3, 0), 3);
        C.due("the sum", x.meet(3, 1), 7);
        C.due("greatest: 2 by 4", x.meet(3, 2), 2);
        C.due("the greatest", x.meet(3, 3), 4);
        C.due("one alone stays", x.meet(4, 0), 2);
        C.due("by nothing", x.meet(4, 1), 0);
        C.due("three", x.meet(7, 0), 2);
        C.due("their sum", x.meet(7, 1), 8);
        x.length(0, 3);
        C.due("like sums: the lowest", x.meet(3, 0), 2);
        x.length(0, 4);
        x.close(5);
        C.due("2 and 3 do not meet", x.meet(12, 0), NO);
        C.due("nor by the greatest", x.meet(12, 3), NO);
        C.due("nobody", x.meet(0, 0), NO);
        C.due("no town 5", x.meet(33, 0), NO);
        C.due("no town 31", x.meet(Integer.MIN_VALUE, 0), NO);
        C.due("no what", x.meet(3, 4), NO);
        C.due("no what", x.meet(3, -1), NO);
        KeptWays y = Texts.withNet("towns 3;road 0 1 -5;road 1 0 6;road 2 0 1");
        C.due("below 0", y.meet(1, 0), 1);
        C.due("below 0", y.meet(1, 1), -5);
        C.due("greatest of -5 and -4", y.meet(5, 3), -4);
    }

    private static void through() {
        KeptWays x = Texts.withNet(FIVE);
        C.due("to 1 by 3", x.through(1, 3), 10);
        C.due("to 3 by 2", x.through(3, 2), 6);
        C.due("to 2 by 0", x.through(2, 0), 8);
        C.due("to itself by itself", x.through(2, 2), 8);
        C.due("no way back", x.through(0, 3), NO);
        C.due("no town", x.through(4, 0), NO);
        C.due("no town", x.through(0, 4), NO);
        C.due("no town", x.through(-1, 0), NO);
        C.due("no town", x.through(0, -1), NO);
        x.origin(3);
        C.due("no distance of 0", x.through(1, 0), NO);
    }

    private static void shortcut() {
        KeptWays x = Texts.withNet("towns 4;road 0 1 10;road 1 2 10;road 2 3 10");
        C.due("from", x.shortcut(1, 0), 0);
        C.due("to: 2 saves 19 + 19, 3 saves 29, 1 saves 27", x.shortcut(1, 1), 2);
        C.due("by", x.shortcut(1, 2), 38);
        C.due("none", x.shortcut(30, 0), -2);
        C.due("none", x.shortcut(30, 1), -2);
        C.due("none", x.shortcut(30, 2), -2);
        C.due("0 to 3 saves 1", x.shortcut(29, 1), 3);
        C.due("of -BILLION: 0 1 saves for all", x.shortcut(-BILLION, 1), 1);
        C.due("by much", x.shortcut(-BILLION, 2), 3L * (BILLION + 10));
        C.due("no length", x.shortcut(BILLION + 1, 0), NO);
        C.due("no length", x.shortcut(-BILLION - 1, 0), NO);
        C.due("no what", x.shortcut(1, 3), NO);
        C.due("no what", x.shortcut(1, -1), NO);
        C.due("aside", x.count(1), 3);
        // 2 has no distance, but a road to it makes 1 nearer; that 2 gets one does not count.
        KeptWays y = Texts.withNet("towns 3;road 0 1 10;road 2 1 -50");
        C.due("by a town without distance", y.shortcut(5, 1), 2);
        C.due("10 to -45", y.shortcut(5, 2), 55);
        KeptWays ring = Texts.withNet("towns 3;road 0 1 10;road 1 2 10;road 2 0 3");
        C.due("no ring of 0 or less: 0 to 1", ring.shortcut(-13, 2), -2);
        C.due("just above: 0 to 1", ring.shortcut(-12, 0) * 10 + ring.shortcut(-12, 1), 1);
        C.due("22 for 1 and 2", ring.shortcut(-12, 2), 44);
        KeptWays ties = Texts.withNet("towns 3;road 0 1 5;road 0 2 5");
        C.due("of like ones the least to", ties.shortcut(4, 0) * 10 + ties.shortcut(4, 1), 1);
        KeptWays full = Texts.withNet("towns 3;road 0 1 5");
        for (int i = 1; i < 36; i++) {
            full.lay(0, 1, 5);
        }
        C.due("were there room", full.shortcut(3, 2), 2);
        KeptWays low = Texts.withNet("towns 4;road 0 1 -1000000000;road 1 2 -1000000000;road 2 3 9");
        C.due("distances beyond ints: 0 to 1 would be none, 2 to 3", low.shortcut(-BILLION, 2), BILLION + 9);
    }

    private static void mean() {
        KeptWays x = Texts.withNet("towns 5;road 0 1 4;road 1 0 4;road 1 2 2;road 2 0 3;road 3 4 5;road 4 3 6");
        C.due("9 by 3 is 3 by 1", x.mean(0) * 10 + x.mean(1), 31);
        x.length(3, 4);
        C.due("10 by 3", x.mean(0) * 10 + x.mean(1), 103);
        x.close(2);
        C.due("8 by 2 is 4 by 1", x.mean(0) * 10 + x.mean(1), 41);
        x.close(0);
        C.due("where nobody comes: 11 by 2", x.mean(0) * 10 + x.mean(1), 112);
        C.due("no what", x.mean(2), NO);
        C.due("no what", x.mean(-1), NO);
        x.close(5);
        C.due("no ring", x.mean(0), NO);
        C.due("no ring", x.mean(1), NO);
        KeptWays y = Texts.withNet("towns 3;road 0 1 -1000000000;road 1 2 1000000000;road 2 0 1");
        C.due("1 by 3", y.mean(0) * 10 + y.mean(1), 13);
    }

    private static void round() {
        KeptWays x = Texts.withNet("towns 5;road 0 1 1;road 1 0 1;road 0 2 2;road 2 0 2;road 1 2 9;road 3 0 5;road 2 3 1");
        C.due("nobody", x.round(0, 0), 0);
        C.due("origin alone", x.round(1, 0), 0);
        C.due("nobody, no order", x.round(1, 1), -4);
        C.due("1 and 2", x.round(6, 0), 6);
        C.due("as good: the first in numbers", x.round(6, 1) * 10 + x.round(6, 2), 12);
        C.due("not so many", x.round(6, 3), -4);
        C.due("origin does not count", x.round(7, 3), -4);
        C.due("1 to 3: 2 + 2 + 1 + 5", x.round(14, 0), 10);
        C.due("order", x.round(14, 1) * 100 + x.round(14, 2) * 10 + x.round(14, 3), 123);
        C.due("3 alone goes by 2", x.round(8, 0), 8);
        C.due("its order", x.round(8, 1), 3);
        C.due("no way to 4", x.round(16, 0), NO);
        C.due("no way, no order", x.round(16, 1), NO);
        C.due("no town 5", x.round(32, 0), NO);
        C.due("no town 31", x.round(Integer.MIN_VALUE, 0), NO);
        C.due("no what", x.round(6, 7), NO);
        C.due("no what", x.round(6, -1), NO);
        x.close(5);
        C.due("no way back", x.round(8, 0), NO);
        KeptWays y = Texts.withNet("towns 9");
        for (int t = 0; t < 8; t++) {
            y.lay(t, t + 1, 1);
            y.lay(t + 1, t, 10);
        }
        y.origin(4);
        C.due("six: to 8 and back, to 0 and back", y.round(0b1_1100_0111, 0), 88);
        C.due("more than 6", y.round(0b1_1110_1111, 0), NO);
        C.due("more than 6, an order", y.round(0b1_1110_1111, 1), NO);
        C.due("6 with the origin's", y.round(0b0_1111_0111 & ~64 | 256, 0), 88);
        C.due("a later order of six", y.round(0b0_1110_0111, 6), 7);
        KeptWays z = Texts.withNet("towns 4;road 0 1 5;road 0 2 1;road 2 1 1;road 1 3 1;road 3 0 1;road 1 2 9;road 3 2 9");
        C.due("2 ahead of 1", z.round(14, 1) * 100 + z.round(14, 2) * 10 + z.round(14, 3), 213);
    }

    private static void drawn() {
        KeptWays x = Texts.withNet("towns 3;road 0 1 5;road 1 2 3");
        // X 1: 39022 (road 0), 61087: not 0 modulo 8, modulo 41 is 38, less 10: 28 more.
        C.due("one draw", x.drawn(1, 1), 33);
        C.due("aside", x.town(1, 0), 5);
        C.due("X stays", x.count(13), 1);
        C.due("again", x.drawn(1, 2), 36);
        C.due("n 0", x.drawn(0, 1), NO);
        C.due("n 61", x.drawn(61, 1), NO);
        C.due("no town", x.drawn(1, 3), NO);
        C.due("no town", x.drawn(1, -1), NO);
        C.due("no roads", Texts.withNet("towns 3").drawn(1, 0), NO);
        KeptWays high = Texts.withNet("road 0 1 1000000000");
        C.due("held to 10000", high.drawn(1, 1), 10000);
        high.length(0, -BILLION);
        C.due("held to -100", high.drawn(1, 1), -100);
        long[] seeds = {17, 4, 60000, 3, 65535, 12345};
        for (long seed : seeds) {
            x.seed((int) seed);
            C.due("60 draws by " + seed, x.drawn(60, 2), drawnByHand(seed, 60));
            C.due("7 draws by " + seed, x.drawn(7, 2), drawnByHand(seed, 7));
        }
        C.due("turn", x.count(5), 0);
    }

    /** Two roads one behind the other make no ring, and never are too far. */
    private static long drawnByHand(long seed, int times) {
        long[] length = {5, 3};
        boolean[] closed = new boolean[2];
        long x = seed;
        for (int i = 0; i < times; i++) {
            x = (25173 * x + 13849) % 65536;
            int road = (int) (x % 2);
            x = (25173 * x + 13849) % 65536;
            if (x % 8 == 0) {
                closed[road] = !closed[road];
            } else {
                length[road] = Math.max(-100, Math.min(10000, length[road] + x % 41 - 10));
            }
        }
        return closed[0] || closed[1] ? NO : length[0] + length[1];
    }

    private static void seed() {
        KeptWays x = new KeptWays();
        C.due("0", x.seed(0), true);
        C.due("X", x.count(13), 0);
        C.due("65535", x.seed(65535), true);
        C.due("65536", x.seed(65536), false);
        C.due("-1", x.seed(-1), false);
        C.due("stays", x.count(13), 65535);
        C.due("turn", x.count(5), 0);
        seedBehindNet();
    }

    private static void seedBehindNet() {
        String text = "towns 3;road 0 1 5;road 1 2 3";
        KeptWays x = new KeptWays();
        C.due("net", Texts.net(x, text), 3);
        C.due("X of a new object stays 1", x.count(13), 1);
        x.seed(0);
        C.due("another net", Texts.net(x, text), 3);
        C.due("X is what was told", x.count(13), 0);
        for (int seed : new int[] {0, 17, 4, 60000, 65535}) {
            x.seed(seed);
            x.drawn(9, 1);
            Texts.net(x, text);
            C.due("X behind a net: " + seed, x.count(13), seed);
            C.due("30 draws behind a net, by " + seed, x.drawn(30, 2), drawnByHand(seed, 30));
        }
        x.seed(5);
        x.keep();
        x.seed(6);
        x.undo();
        Texts.net(x, text);
        C.due("X as it was undone", x.count(13), 5);
    }
}
