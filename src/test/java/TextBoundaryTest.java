/** The sentences of promises 1 to 4 and 34, and of nets and orders, that name a boundary. */
public final class TextBoundaryTest {
    private static final Checker C = new Checker("TextBoundaryTest");
    private static final long NO = KeptWays.NO_LENGTH;
    private static final String FAR = "towns 5;road 0 1 1000000000;road 1 2 1000000000;road 2 3 ";
    private static final String LOW = "towns 5;road 0 1 -1000000000;road 1 2 -1000000000;road 2 3 ";
    private static final String[] ORDERS = {"lay 0 1 -5", "length 0 -5", "close 0", "open 0", "origin 1", "watch 1 -5", "forget 1"};

    private TextBoundaryTest() {
    }

    public static void main(String[] args) {
        Sentences.runAll(TextBoundaryTest.class, C);
    }

    private static void net(String text, int due) {
        C.due("net \"" + text + "\"", Texts.net(new KeptWays(), text), due);
    }

    /** Of three towns with a road from 0 to 1 of length 5. */
    private static void orders(String text, int due) {
        KeptWays x = Texts.withNet("towns 3;road 0 1 5");
        C.due("orders \"" + text + "\"", Texts.orders(x, text), due);
        if (due < 0) {
            C.due("nothing is done by \"" + text + "\"", x.count(5) + x.count(9), 0);
        }
    }

    @Says(promise = 1, value = "Two TOWNS without ROADS.")
    private static void newObject() {
        KeptWays x = new KeptWays();
        C.due("towns", x.count(0), 2);
        C.due("roads", x.count(1), 0);
        C.due("no road 0", x.road(0, 2), NO);
        C.due("the tape is empty", x.check(1), -2);
        C.due("no watches", x.count(9), 0);
        C.due("nothing is kept", x.undo(), false);
        C.due("one distance", x.count(6), 1);
    }

    @Says(promise = 2, value = "Twenty bytes come behind the tape, the highest of each int first: how many it has")
    private static void bytesInOrder() {
        KeptWays x = new KeptWays();
        C.due("20", x.feed(0x746f776e, 0x7320333b, 0x726f6164, 0x20302032, 0x20303030), 20);
        C.due("40", x.feed(0x30303030, 0x30373bff, 0, 0, 0), 40);
        C.due("they are \"towns 3;road 0 2 0000000007\"", x.net(26), 2);
        C.due("length", x.road(0, 2), 7);
        C.due("to", x.road(0, 1), 2);
    }

    @Says(promise = 2, value = "NONE if that would be more than 240.")
    private static void tapeIsFull() {
        KeptWays x = new KeptWays();
        for (int i = 1; i <= 12; i++) {
            C.due("feed " + i, x.feed(0x746f776e, 0x73203300, 0, 0, 0), 20 * i);
        }
        C.due("feed 13", x.feed(-1, -1, -1, -1, -1), -1);
        C.due("240", x.count(12), 240);
        C.due("what was on it stays", x.net(7), 1);
        C.due("empty", x.count(12), 0);
        C.due("there is room again", x.feed(0, 0, 0, 0, 0), 20);
    }

    @Says(promise = 3, value = "A NET by the first n bytes of the tape (1 to 200; empty then): how many CLAUSES")
    private static void netOfTheFirstBytes() {
        C.due("200 bytes", longNet(200).length(), 200);
        net(longNet(200), 18);
        net("towns 2", 1);
        net("road 0 1 1", 1);
        net("towns 2;road 0 1 1", 2);
        KeptWays x = new KeptWays();
        Texts.feed(x, longNet(200));
        x.feed(0, 0, 0, 0, 0);
        x.feed(0, 0, 0, 0, 0);
        C.due("the first 7 of 240", x.net(7), 1);
        C.due("empty", x.count(12), 0);
        C.due("one byte", Texts.net(x, "t"), -1000);
        C.due("empty", x.count(12), 0);
    }

    /** A good net with 18 clauses of so many bytes, 194 to 203, the last number of which has zeros ahead. */
    private static String longNet(int bytes) {
        StringBuilder text = new StringBuilder("towns 9");
        for (int i = 0; i < 17; i++) {
            text.append(";road 0 1 ");
        }
        String head = text.toString().replace("1 ;", "1 5;");
        return head + "0".repeat(bytes - head.length() - 1) + "5";
    }

    @Says(promise = 3, value = "a FAULT: -1000 times its number, less its place (all stays)")
    private static void faultsAtTheirPlaces() {
        net("x", -1000);
        net(longNet(199) + "x", -1199);
        net(longNet(199) + ";", -1200);
        net(longNet(198) + ";x", -1199);
        KeptWays x = Texts.withNet("towns 3;road 0 1 5");
        x.close(0);
        x.keep();
        C.due("a fault", Texts.net(x, "towns 4;"), -1008);
        C.due("towns stay", x.count(0), 3);
        C.due("roads stay", x.count(1), 1);
        C.due("closed stays", x.count(2), 0);
        C.due("turn stays", x.count(5), 1);
        C.due("what was kept stays", x.undo(), true);
    }

    @Says(promise = 3, value = "NONE: no such n, it has not so many (the tape stays).")
    private static void noSuchNet() {
        KeptWays x = new KeptWays();
        C.due("of an empty tape", x.net(1), -1);
        Texts.feed(x, "towns 7");
        for (int n : new int[] {0, -1, 21, 200, 201, Integer.MAX_VALUE, Integer.MIN_VALUE}) {
            C.due("net(" + n + ")", x.net(n), -1);
            C.due("orders(" + n + ")", x.orders(n), -1);
            C.due("the tape stays", x.count(12), 20);
        }
        for (int i = 0; i < 11; i++) {
            x.feed(0, 0, 0, 0, 0);
        }
        C.due("201 of 240", x.net(201), -1);
        C.due("240 of 240", x.net(240), -1);
        C.due("orders, 201 of 240", x.orders(201), -1);
        C.due("the tape stays", x.count(12), 240);
        C.due("it has what it had", x.net(7), 1);
        C.due("towns", x.count(0), 7);
        Texts.feed(x, "towns 5;road 0 1 15");
        x.feed(0, 0, 0, 0, 0);
        C.due("one more than it has", x.net(41), -1);
        C.due("all that it has", x.net(40), -1019);
    }

    @Says("A NET: a TEXT of at most 200 bytes: CLAUSES with a ; (59) between two, 24 at most")
    private static void betweenClauses() {
        net("towns 3;road 0 1 5", 2);
        net("towns 3:road 0 1 5", -1007);
        net("towns 3<road 0 1 5", -1007);
        net("towns 3,road 0 1 5", -1007);
        net("towns 3 road 0 1 5", -1007);
        net("towns 3road 0 1 5", -1007);
        net("towns 3;;road 0 1 5", -1008);
        net("towns 3; road 0 1 5", -1008);
        net("towns 3 ;road 0 1 5", -1007);
        net(";towns 3", -1000);
        net("towns 3;", -1008);
        StringBuilder many = new StringBuilder("open 0");
        for (int i = 1; i < 24; i++) {
            many.append(i % 2 == 1 ? ";close 0" : ";open 0");
        }
        KeptWays x = Texts.withNet("road 0 1 5");
        x.close(0);
        C.due("24 clauses", Texts.orders(x, many.toString()), 24);
        C.due("each was done", x.count(5), 25);
    }

    @Says("each a word and NUMBERS (one to ten digits, perhaps a - ahead) with one blank (32) ahead of each")
    private static void wordsAndNumbers() {
        net("towns ", -1006);
        net("towns 7", 1);
        net("towns 0000000007", 1);
        net("towns 00000000007", -2016);
        net("road 0 1 1000000000", 1);
        net("road 0 1 -1000000000", 1);
        net("road 0 1 -0000000001", 1);
        net("road 0 1 -00000000001", -2020);
        net("road -0 1 5", 1);
        net("road 0 1 -", -1010);
        net("road 0 1 --5", -1010);
        net("road 0 1 - 5", -1010);
        net("road 0 1 5-", -1010);
        net("road 0 1 +5", -1009);
        net("road 0 1 /", -1009);
        net("road 0 1 :", -1009);
        net("road 0 1 5.0", -1010);
        net("road 0 1  5", -1009);
        net("road  0 1 5", -1005);
        net("road 0 1\t5", -1008);
        net("road 0 1!5", -1008);
        net("road 0 1\u001f5", -1008);
        net("road0 1 5", -1004);
        net("road 0 1 5 6", -1010);
        net("road 0 1 5 ", -1010);
        net("towns 3 4", -1007);
        C.due("-0000000001 is -1", Texts.withNet("road 0 1 -0000000001").town(1, 0), -1);
        C.due("0000000009 is 9", Texts.withNet("road 0 1 0000000009").town(1, 0), 9);
    }

    @Says("towns N (the first CLAUSE alone may be this one)")
    private static void townsFirst() {
        net("towns 3", 1);
        net("road 0 1 5;road 1 0 5", 2);
        net("towns 3;towns 3", -1008);
        net("road 0 1 5;towns 3", -1011);
        net("road 0 1 5;road 1 0 5;towns 3", -1022);
        C.due("two towns without it", Texts.withNet("road 0 1 5").count(0), 2);
        KeptWays x = Texts.withNet("towns 12");
        C.due("two again without it", Texts.net(x, "road 0 1 5"), 1);
        C.due("towns", x.count(0), 2);
        net("road 0 2 5", -3007);
    }

    @Says("Words are as far as small letters go on.")
    private static void wordsEnd() {
        net("townsx 3", -1000);
        net("townsz", -1000);
        net("townsa 3", -1000);
        net("town 3", -1000);
        net("Towns 3", -1000);
        net("townS 3", -1000);
        net("towns`3", -1005);
        net("towns{3", -1005);
        net("towns3", -1005);
        net("towns\u00e9 3", -1005);
        net("townsS 3", -1005);
        net("\u00e9", -1000);
        net("{", -1000);
        net("`", -1000);
        net("roadroad 0 1 5", -1000);
        net("road;", -1004);
        orders("closes 0", -1000);
        orders("close{0", -1005);
        orders("opene 0", -1000);
    }

    @Says("All is anew then: ROADS OPEN, ORIGIN 0, TOUCHED nobody, no WATCHES, EVENTS.")
    private static void netMakesAnew() {
        KeptWays x = Texts.withNet("towns 3;road 0 1 5;road 1 2 7;road 2 0 9;road 2 1 9");
        x.watch(2, 12);
        x.watch(0, 12);
        x.length(0, 6);
        x.close(0);
        x.origin(1);
        x.keep();
        C.due("events", x.count(8), 3);
        C.due("touched", x.count(4), 3);
        C.due("between", x.between(0, 1), NO);
        C.due("net", Texts.net(x, "towns 3;road 1 2 7;road 0 1 6"), 3);
        C.due("roads", x.count(1), 2);
        C.due("all open", x.count(2), 2);
        C.due("between", x.between(0, 1), 6);
        C.due("road 0 is another", x.road(0, 0), 1);
        C.due("origin", x.count(3), 0);
        C.due("touched", x.count(4), 0);
        C.due("touched", x.touched(0), -4);
        C.due("turn", x.count(5), 0);
        C.due("events", x.count(8), 0);
        C.due("no event", x.event(0, 0), NO);
        C.due("watches", x.count(9), 0);
        C.due("beyond", x.count(10), 0);
        C.due("limit", x.town(2, 10), NO);
        C.due("nothing to forget", x.forget(2), false);
        C.due("nothing is kept", x.undo(), false);
        x.length(0, 60);
        C.due("no event by what was watched", x.count(8), 0);
        C.due("a net without roads", Texts.net(x, "towns 3"), 1);
        C.due("none", x.count(1), 0);
        C.due("none open", x.count(2), 0);
    }

    @Says("FAULTS, the first from the left (of one place that of the least number)")
    private static void theFirstFault() {
        net("towns 1;x", -3006);
        net("towns 1x", -3006);
        net("x;towns 1", -1000);
        net("towns 3;road 0 0 1000000001", -6015);
        net("road 9 9 1000000001", -3005);
        net("road 0 9 00000000001", -3007);
        net("road 0 1 00000000001;x", -2019);
        net("road 0 1 5x00000000001", -1010);
        orders("origin 9;close 99", -3007);
        orders("close 99;lay 0 0 1", -3006);
        orders("lay 0 0 1;close 99", -6006);
        orders("close 0;close 00000000001;x", -2024);
    }

    @Says("1 what can't stand there (the end, too; of a word at its first letter; towns as another CLAUSE)")
    private static void whatCantStandThere() {
        cutOff("", "towns 3", true);
        cutOff("", "road 0 1 -5", true);
        cutOff("towns 3;", "road 0 1 -5", true);
        for (String order : ORDERS) {
            cutOff("", order, false);
            cutOff("close 0;", order, false);
            orders(order + "#", -1000 - order.length());
            orders(order + " ", -1000 - order.length());
            orders(order + ";", -1001 - order.length());
            orders("#" + order, -1000);
            orders("x" + order, -1000);
            orders("close 0;x" + order, -1008);
            orders("close 0; " + order, -1008);
        }
        net("towns 3;towns 3", -1008);
    }

    /**
     * Each beginning of a clause ends too soon: at the word's first letter, or where it ends.
     * What stands on the tape behind it is not read.
     */
    private static void cutOff(String ahead, String clause, boolean isNet) {
        int word = clause.indexOf(' ');
        for (int n = ahead.isEmpty() ? 1 : 0; n < clause.length(); n++) {
            int bytes = ahead.length() + n;
            int due = -1000 - ahead.length() - (n < word ? 0 : n);
            for (String behind : new String[] {clause.substring(n), "#", " ", "-", "5", ";"}) {
                KeptWays x = Texts.withNet("towns 3;road 0 1 5");
                Texts.feed(x, ahead + clause.substring(0, n) + behind);
                C.due("the first " + bytes + " bytes of \"" + ahead + clause + "\"", isNet ? x.net(bytes) : x.orders(bytes), due);
            }
        }
    }

    @Says("1 what can't stand there (the end, too; of a word at its first letter; towns as another CLAUSE)")
    private static void otherLetters() {
        String[] clauses = {"towns 3", "road 0 1 5"};
        for (String clause : clauses) {
            for (int i = 0; i < clause.indexOf(' '); i++) {
                net(withOtherSign(clause, i), -1000);
            }
        }
        for (String order : ORDERS) {
            for (int i = 0; i < order.indexOf(' '); i++) {
                orders(withOtherSign(order, i), -1000);
            }
        }
    }

    private static String withOtherSign(String text, int at) {
        return text.substring(0, at) + (text.charAt(at) == 'q' ? 'r' : 'q') + text.substring(at + 1);
    }

    @Says("2 an eleventh digit, at it")
    private static void eleventhDigit() {
        net("towns 00000000002", -2016);
        net("towns 99999999999", -2016);
        net("towns 999999999999", -2016);
        net("towns -00000000002", -2017);
        net("road 00000000000 1 5", -2015);
        net("road 0 00000000001 5", -2017);
        net("road 0 00000000000 5", -2017);
        net("road 0 1 00000000005", -2019);
        net("road 0 1 -00000000005", -2020);
        net("towns 0000000002", 1);
        orders("length 0 -10000000000", -2020);
        orders("close 00000000000", -2016);
        orders("forget 00000000000", -2017);
    }

    @Says("3 a NUMBER that is none of those told, at its first digit (or -), asked when it ends")
    private static void numbersNotTold() {
        net("towns 1", -3006);
        net("towns 13", -3006);
        net("towns 0", -3006);
        net("towns -2", -3006);
        net("towns 9999999999", -3006);
        net("towns 4294967298", -3006);
        net("towns 1;", -3006);
        net("towns 99999999999", -2016);
        net("towns 12", 1);
        net("towns 2", 1);
        net("road 2 1 5", -3005);
        net("road -1 1 5", -3005);
        net("road 4294967296 1 5", -3005);
        net("road 0 2 5", -3007);
        net("road 0 -1 5", -3007);
        net("road 1 0 5", 1);
        net("towns 12;road 11 10 5", 2);
        net("towns 12;road 12 10 5", -3014);
        net("towns 12;road 10 12 5", -3017);
        net("road 0 1 1000000000", 1);
        net("road 0 1 1000000001", -3009);
        net("road 0 1 -1000000000", 1);
        net("road 0 1 -1000000001", -3009);
        net("road 0 1 9999999999", -3009);
        net("road 0 1 -9999999999", -3009);
    }

    @Says("4 a CLAUSE too many, where it begins (whatever stands there)")
    private static void aClauseTooMany() {
        StringBuilder text = new StringBuilder("open 0");
        for (int i = 1; i < 24; i++) {
            text.append(i % 2 == 1 ? ";close 0" : ";open 0");
        }
        String full = text.toString();
        int place = full.length() + 1;
        for (String more : new String[] {"open 0", "close 99", "x", ";", " ", "\u0000", "\u00ff", "lay 0 0 1", "", "open"}) {
            orders(full + ";" + more, -4000 - place);
        }
        orders(full + "x", -1000 - full.length());
        orders(full + " ", -1000 - full.length());
        orders(full.substring(0, full.length() - 1) + "x", -1000 - full.length() + 1);
        orders(full.substring(0, full.length() - 1) + "36;open 0", -3000 - full.length() + 1);
        orders(full.substring(0, full.length() - 1) + ";open 0", -1000 - full.length() + 1);
        orders("x" + full + ";open 0", -1000);
        // The last number of the 24th has an eleventh digit, which is left of the 25th.
        orders(full + "0000000000;open 0", -2000 - full.length() - 9);
    }

    @Says("6 a ROAD from a TOWN to itself, at the second NUMBER (behind 3).")
    private static void aRoadToItself() {
        net("road 0 0 5", -6007);
        net("road 1 1 5", -6007);
        net("road 1 1", -6007);
        net("road 1 1x", -6007);
        net("road 1 1;", -6007);
        net("road 1 1 x", -6007);
        net("road 0 -0 5", -6007);
        net("road 1 0000000001 5", -6007);
        net("road 0000000001 1 5", -6016);
        net("road 2 2 5", -3005);
        net("road 0 1 5;road 1 1 5", -6018);
        net("towns 12;road 11 11 5", -6017);
        net("towns 12;road 1 11 5", 2);
        orders("lay 0 0 5", -6006);
        orders("lay 2 2 5", -6006);
        orders("lay 3 3 5", -3004);
        orders("lay 0 0", -6006);
        orders("close 0;lay 1 1 5", -6014);
        orders("watch 0 0;length 0 0", 2);
    }

    @Says("Behind all: -3: a RING is of length 0 or less; -4: a DISTANCE is no int (from TOWN 0): refused, too.")
    private static void netsRefused() {
        net("road 0 1 5;road 1 0 -4", 2);
        net("road 0 1 5;road 1 0 -5", -3);
        net("road 0 1 5;road 1 0 -6", -3);
        net("road 1 0 -5;road 0 1 5", -3);
        net("road 0 1 0;road 1 0 0", -3);
        net("towns 4;road 2 3 1;road 3 2 -1", -3);
        net("road 0 1 5;road 1 0 -5;x", -1023);
        net(FAR + "147483647", 4);
        net(FAR + "147483648", -4);
        net(LOW + "-147483648", 4);
        net(LOW + "-147483649", -4);
        net(FAR + "147483648;x", -1000 - FAR.length() - 10);
        net(FAR + "147483648;road 4 3 1;road 3 4 -1", -3);
        net("towns 5;road 1 2 1000000000;road 2 3 1000000000;road 3 4 1000000000", 4);
        // Another way to the same town is short enough.
        net(FAR + "147483648;road 0 3 5", 5);
        KeptWays x = Texts.withNet("towns 3;road 0 1 5");
        x.keep();
        C.due("ring", Texts.net(x, "road 0 1 5;road 1 0 -5"), -3);
        C.due("the tape is empty", x.count(12), 0);
        C.due("too far", Texts.net(x, FAR + "147483648"), -4);
        C.due("the tape is empty", x.count(12), 0);
        C.due("towns stay", x.count(0), 3);
        C.due("the road stays", x.road(0, 2), 5);
        C.due("what was kept stays", x.undo(), true);
    }

    @Says("ORDERS: a TEXT likewise (towns, road are no words here)")
    private static void wordsOfOrders() {
        orders("towns 3", -1000);
        orders("road 0 1 5", -1000);
        orders("close 0;towns 3", -1008);
        orders("close 0;road 0 1 5", -1008);
        for (String order : ORDERS) {
            net(order, -1000);
            net("towns 3;" + order, -1008);
        }
        KeptWays x = Texts.withNet("towns 3;road 0 1 5");
        C.due("each word", Texts.orders(x, "lay 1 2 -4;length 0 6;close 1;open 1;origin 1;watch 2 7;forget 2"), 7);
        C.due("turn", x.count(5), 5);
    }

    @Says("NUMBERS: TOWNS that there are, ROADS 0 to 35, LENGTHS, LIMITS likewise (FAULT 6: lay from a TOWN to itself).")
    private static void numbersOfOrders() {
        orders("origin 2", 1);
        orders("origin 3", -3007);
        orders("origin -1", -3007);
        orders("watch 2 5", 1);
        orders("watch 3 5", -3006);
        orders("forget 2", 0);
        orders("forget 3", -3007);
        orders("lay 2 0 5", 1);
        orders("lay 3 0 5", -3004);
        orders("lay 0 3 5", -3006);
        for (String word : new String[] {"close", "open"}) {
            orders(word + " 35", 0);
            orders(word + " 36", -3001 - word.length());
            orders(word + " -1", -3001 - word.length());
        }
        orders("length 35 5", 0);
        orders("length 36 5", -3007);
        orders("length -1 5", -3007);
        for (String head : new String[] {"lay 0 1 ", "length 0 ", "watch 1 "}) {
            orders(head + "1000000000", 1);
            orders(head + "-1000000000", 1);
            orders(head + "1000000001", -3000 - head.length());
            orders(head + "-1000000001", -3000 - head.length());
        }
        orders("lay 1 1 5", -6006);
        C.due("town 11 of 12", Texts.orders(Texts.withNet("towns 12"), "origin 11;watch 11 0;lay 11 10 1;forget 11"), 4);
        C.due("town 12 of 12", Texts.orders(Texts.withNet("towns 12"), "origin 12"), -3007);
    }

    @Says("They are done one by one, till one is refused.")
    private static void tillOneIsRefused() {
        orders("open 0;close 0", 0);
        orders("close 0;close 0;open 0", 1);
        orders("close 1;close 0", 0);
        orders("lay 1 2 5;close 1;open 1", 3);
        orders("length 0 5;close 0", 0);
        orders("length 0 6;length 0 5;length 0 5;close 0", 2);
        orders("origin 0;close 0", 0);
        orders("forget 1;close 0", 0);
        orders("watch 1 5;watch 1 5;forget 1;forget 1", 3);
        orders("length 0 -5;lay 1 0 5", 1);
        orders("lay 1 0 -5;close 0", 0);
        orders("lay 2 1 5;length 1 6;close 1;length 1 7;open 1;close 0", 6);
        orders("lay 1 0 -4;lay 1 0 -5", 1);
        KeptWays x = Texts.withNet("towns 4;road 0 1 1000000000;road 1 2 1000000000");
        C.due("too far", Texts.orders(x, "watch 1 1;lay 2 3 147483648;close 0"), 1);
        C.due("what is ahead was done", x.count(9), 2);
        C.due("what is behind was not", x.road(0, 3), 1);
        KeptWays full = Texts.withNet("towns 3");
        for (int i = 0; i < 35; i++) {
            full.lay(0, 1, 1);
        }
        C.due("36 roads", Texts.orders(full, "lay 0 1 1;close 35;lay 0 1 1;close 0"), 2);
    }

    @Says(promise = 4, value = "ORDERS by the first n bytes of the tape (1 to 200; empty then): how many were done; a FAULT (nothing is done); NONE: as above.")
    private static void ordersOfTheFirstBytes() {
        KeptWays x = Texts.withNet("towns 3;road 0 1 5");
        Texts.feed(x, "close 0;open 0");
        C.due("the first 7 bytes", x.orders(7), 1);
        C.due("the tape is empty", x.count(12), 0);
        C.due("closed", x.road(0, 3), 0);
        C.due("a fault in the last", Texts.orders(x, "open 0;origin 1;x"), -1016);
        C.due("the tape is empty", x.count(12), 0);
        C.due("nothing was done", x.count(5), 1);
        C.due("one byte", Texts.orders(x, "o"), -1000);
        C.due("nothing on the tape", x.orders(1), -1);
        String longest = "watch 1 0000000005;".repeat(10) + "open 00000";
        C.due("200 bytes", longest.length(), 200);
        C.due("all of them", Texts.orders(x, longest), 11);
        C.due("the last, too", x.road(0, 3), 1);
        Texts.feed(x, longest + ";");
        C.due("201", x.orders(201), -1);
        C.due("the tape stays", x.count(12), 220);
        C.due("18 of them", x.orders(18), 1);
        Texts.feed(x, "open 0");
        C.due("not so many", x.orders(21), -1);
        C.due("no such n", x.orders(0), -1);
        C.due("no such n", x.orders(-1), -1);
        C.due("the tape stays", x.count(12), 20);
    }

    private static int checkBytes(KeptWays x, int... bytes) {
        StringBuilder text = new StringBuilder();
        for (int b : bytes) {
            text.append((char) b);
        }
        Texts.feed(x, text.toString());
        return x.check(bytes.length);
    }

    @Says("CHECK: PARENTS (255: none) of TOWNS 0, 1, ..: right, or the first that is not so.")
    private static void parentsChecked() {
        KeptWays x = Texts.withNet("towns 3");
        for (int i = 0; i < 35; i++) {
            x.lay(0, 1, 5);
        }
        x.lay(0, 2, 5);
        C.due("right", checkBytes(x, 255, 0, 35), -1);
        C.due("254 is not none", checkBytes(x, 254, 0, 35), 0);
        C.due("0 is not none", checkBytes(x, 0, 0, 35), 0);
        C.due("a tight road, but not the lowest", checkBytes(x, 255, 1, 35), 1);
        C.due("none, where one is", checkBytes(x, 255, 255, 35), 1);
        C.due("another road", checkBytes(x, 255, 0, 34), 2);
        C.due("the first of two", checkBytes(x, 255, 3, 3), 1);
        x.close(35);
        C.due("none to 2", checkBytes(x, 255, 0, 255), -1);
        x.origin(2);
        C.due("none to any", checkBytes(x, 255, 255, 255), -1);
    }

    @Says(promise = 34, value = "CHECK by the first n bytes of the tape (0 to 12; empty then)")
    private static void checkOfTheFirstBytes() {
        KeptWays x = Texts.withNet("towns 12");
        for (int t = 0; t < 11; t++) {
            x.lay(t, t + 1, 1);
        }
        C.due("twelve", checkBytes(x, 255, 0, 1, 2, 3, 4, 5, 6, 7, 8, 9, 10), -1);
        C.due("the twelfth is not so", checkBytes(x, 255, 0, 1, 2, 3, 4, 5, 6, 7, 8, 9, 255), 11);
        Texts.feed(x, "" + (char) 255 + (char) 0 + (char) 1 + (char) 2);
        C.due("three, and the fourth is right, too", x.check(3), -1);
        C.due("the last that is asked", checkBytes(x, 255, 0, 1, 2, 3, 4, 5, 6, 7, 8, 8), 10);
        C.due("one", checkBytes(x, 255), -1);
        Texts.feed(x, "anything that is longer than twenty");
        C.due("40", x.count(12), 40);
        C.due("none of them", x.check(0), -1);
        C.due("empty", x.count(12), 0);
        C.due("none of an empty tape", x.check(0), -1);
        Texts.feed(x, "anything");
        C.due("wrong", x.check(3), 0);
        C.due("empty behind a wrong one, too", x.count(12), 0);
    }

    @Says(promise = 34, value = "NONE: right (behind the last TOWN nothing is); else the first that is not so")
    private static void checkBehindTheLastTown() {
        KeptWays x = Texts.withNet("towns 3;road 0 1 5");
        C.due("all three", checkBytes(x, 255, 0, 255), -1);
        C.due("a fourth", checkBytes(x, 255, 0, 255, 255), 3);
        C.due("a fourth", checkBytes(x, 255, 0, 255, 0), 3);
        C.due("a fourth", checkBytes(x, 255, 0, 255, 1, 255), 3);
        C.due("one ahead is not so", checkBytes(x, 255, 255, 255, 255), 1);
        C.due("twelve", checkBytes(x, 255, 0, 255, 255, 255, 255, 255, 255, 255, 255, 255, 255), 3);
    }

    @Says(promise = 34, value = "-2: no such n, it has not so many (the tape stays).")
    private static void noSuchCheck() {
        KeptWays x = new KeptWays();
        C.due("of an empty tape", x.check(1), -2);
        x.feed(-1, -1, -1, -1, -1);
        for (int n : new int[] {-1, 13, 20, 21, Integer.MAX_VALUE, Integer.MIN_VALUE}) {
            C.due("check(" + n + ")", x.check(n), -2);
            C.due("the tape stays", x.count(12), 20);
        }
        C.due("two", x.check(2), -1);
        C.due("empty", x.count(12), 0);
    }
}
