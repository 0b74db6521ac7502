/** Promises 1 to 4 and 34: a new object, the tape, nets, orders, check. */
public final class TextPromisesTest {
    private static final Checker C = new Checker("TextPromisesTest");
    private static final long NO = KeptWays.NO_LENGTH;

    private TextPromisesTest() {
    }

    public static void main(String[] args) {
        newObject();
        feed();
        netsThatStand();
        netFaults();
        textsCutOff();
        netsRefused();
        netBeginsAnew();
        netStaysAtAFault();
        ordersThatAreDone();
        orderFaults();
        clausesTooMany();
        check();
        C.end();
    }

    private static void newObject() {
        KeptWays x = new KeptWays();
        int[] due = {2, 0, 0, 0, 0, 0, 1, 0, 0, 0, 0, -2, 0, 1};
        for (int i = 0; i < due.length; i++) {
            C.due("new: count(" + i + ")", x.count(i), due[i]);
        }
        C.due("new: distance of 0", x.town(0, 0), 0);
        C.due("new: distance of 1", x.town(1, 0), NO);
        C.due("new: no town 2", x.town(2, 0), NO);
        C.due("new: nothing kept", x.undo(), false);
        C.due("NONE", KeptWays.NONE, -1);
        C.due("NO_LENGTH", KeptWays.NO_LENGTH, -9000000000000000000L);
    }

    private static void feed() {
        KeptWays x = new KeptWays();
        for (int i = 1; i <= 12; i++) {
            C.due("feed " + i, x.feed(0, 0, 0, 0, 0), 20 * i);
        }
        C.due("feed beyond 240", x.feed(0, 0, 0, 0, 0), -1);
        C.due("the tape is full", x.count(12), 240);
        KeptWays y = new KeptWays();
        // The highest byte first: "towns 3" and behind it whatever.
        y.feed(0x746f776e, 0x73203300, 0, 0, 0);
        C.due("bytes are in order", y.net(7), 1);
        C.due("towns", y.count(0), 3);
        KeptWays z = new KeptWays();
        z.feed(0x80FF7F01, -1, 0, 0, 0);
        C.due("bytes above 127 are no signs", z.net(8), -1000);
        z.feed(0xFFFFFFFF, -1, 0, 0, 0);
        C.due("a byte 255 is 255", z.check(2), -1);
    }

    private static void netsThatStand() {
        stands("towns 2", 1, 2, 0);
        stands("towns 12", 1, 12, 0);
        stands("towns 0000000007", 1, 7, 0);
        stands("road 0 1 5", 1, 2, 1);
        stands("road 0 1 1000000000", 1, 2, 1);
        stands("road 0 1 -1000000000", 1, 2, 1);
        stands("road -0 1 5", 1, 2, 1);
        stands("towns 3;road 0 1 5;road 0 1 5;road 2 1 -7", 4, 3, 3);
        KeptWays x = Texts.withNet("towns 3;road 0 2 -12");
        C.due("from", x.road(0, 0), 0);
        C.due("to", x.road(0, 1), 2);
        C.due("length", x.road(0, 2), -12);
        C.due("open", x.road(0, 3), 1);
        C.due("open ones of a net without roads", Texts.withNet("towns 3").count(2), 0);
        C.due("towns are 2 again without towns", Texts.net(x, "road 0 1 1"), 1);
        C.due("towns", x.count(0), 2);
        StringBuilder longest = new StringBuilder("towns 9");
        for (int i = 0; i < 17; i++) {
            longest.append(";road 0 1 5");
        }
        longest.setLength(7 + 17 * 11);
        longest.append("00000");
        longest.append("0");
        C.due("200 bytes", Texts.net(new KeptWays(), longest.toString()), 18);
        C.due("its length", longest.length(), 200);
    }

    private static void stands(String text, int clauses, int towns, int roads) {
        KeptWays x = new KeptWays();
        C.due("net " + text, Texts.net(x, text), clauses);
        C.due("towns of " + text, x.count(0), towns);
        C.due("roads of " + text, x.count(1), roads);
        C.due("the tape is empty", x.count(12), 0);
    }

    private static void netFaults() {
        String[] texts = {
            "x", "-1000", "Towns 2", "-1000", "town 2", "-1000", "townss 2", "-1000", "townsz 2", "-1000", "towns", "-1005",
            "towns2", "-1005", "towns ", "-1006", "towns  2", "-1006", "towns -", "-1007", "towns - 2", "-1007",
            "towns --2", "-1007", "towns 2 ", "-1007", "towns 2x", "-1007", "towns 2;", "-1008", "towns 2;;", "-1008",
            "towns 2; road 0 1 1", "-1008", "towns 2;towns 3", "-1008", ";", "-1000", " road 0 1 1", "-1000",
            "road 0 1 1;towns 3", "-1011", "road 0 1 1;lay 0 1 1", "-1011", "road 0 1", "-1008", "road 0 1 ", "-1009",
            "road 0 1 1 1", "-1010", "road 0 1 1,", "-1010", "road 0,1 1", "-1006", "road", "-1004", "roa", "-1000",
            "road 0 1 +1", "-1009", "road 0 1 1\n", "-1010",
            "towns 00000000002", "-2016", "towns 99999999999", "-2016", "towns -00000000002", "-2017",
            "road 0 1 00000000001", "-2019", "road 00000000003 1 1", "-2015",
            "towns 1", "-3006", "towns 0", "-3006", "towns 13", "-3006", "towns -2", "-3006", "towns 13x", "-3006",
            "towns 9999999999", "-3006", "road 2 1 1", "-3005", "road -1 1 1", "-3005", "road 0 2 1", "-3007",
            "road 2 2 1", "-3005", "road 0 2x", "-3007", "road 0 1 1000000001", "-3009", "road 0 1 -1000000001", "-3009",
            "road 0 1 9999999999", "-3009", "towns 3;road 0 3 1", "-3015",
            "road 0 0 1", "-6007", "road 1 1", "-6007", "road 0 0x", "-6007", "road 0 -0 1", "-6007", "road 0 00 1", "-6007",
            "towns 5;road 4 4 1", "-6015",
        };
        for (int i = 0; i < texts.length; i += 2) {
            KeptWays x = new KeptWays();
            C.due("net " + texts[i], Texts.net(x, texts[i]), Integer.parseInt(texts[i + 1]));
            C.due("the tape is empty behind a fault", x.count(12), 0);
        }
    }

    /** What stands on the tape behind the first n bytes is not read. */
    private static void textsCutOff() {
        int[] due = {-1000, -1000, -1000, -1004, -1005, -1006, -1007, -1008, -1009, -1010, 1, 1, -3};
        for (int n = 1; n <= due.length; n++) {
            KeptWays x = new KeptWays();
            Texts.feed(x, n == due.length ? "road 0 1 2;road 1 0 -2" : "road 0 1 -27;road 1 0 27");
            C.due("the first " + n + " bytes", x.net(n == due.length ? 22 : n), due[n - 1]);
        }
    }

    private static void netsRefused() {
        KeptWays x = new KeptWays();
        C.due("ring of 0", Texts.net(x, "road 0 1 1;road 1 0 -1"), -3);
        C.due("ring below 0", Texts.net(x, "road 0 1 -1;road 1 0 -1"), -3);
        C.due("ring where nobody comes", Texts.net(x, "towns 4;road 2 3 1;road 3 2 -1"), -3);
        String far = "towns 5;road 0 1 1000000000;road 1 2 1000000000;road 2 3 ";
        C.due("too far", Texts.net(x, far + "147483648"), -4);
        C.due("just not too far", Texts.net(x, far + "147483647"), 4);
        String low = "towns 5;road 0 1 -1000000000;road 1 2 -1000000000;road 2 3 -";
        C.due("too low", Texts.net(x, low + "147483649"), -4);
        C.due("just not too low", Texts.net(x, low + "147483648"), 4);
        C.due("distance", x.town(3, 0), Integer.MIN_VALUE);
        C.due("far, but not from 0", Texts.net(x, "towns 5;road 1 2 1000000000;road 2 3 1000000000;road 3 4 1000000000"), 4);
        C.due("ring ahead of too far", Texts.net(x, far + "147483648;road 4 0 1;road 0 4 -1"), -3);
        C.due("no such n", x.net(0), -1);
        C.due("no such n", x.net(-5), -1);
        x.feed(0x746f776e, 0x73203300, 0, 0, 0);
        C.due("not so many", x.net(21), -1);
        C.due("the tape stays", x.count(12), 20);
        C.due("and can be used", x.net(7), 1);
        for (int i = 0; i < 12; i++) {
            x.feed(0, 0, 0, 0, 0);
        }
        C.due("more than 200", x.net(201), -1);
        C.due("more than 200", x.orders(201), -1);
        C.due("200", x.net(200), -1000);
    }

    private static KeptWays used() {
        KeptWays x = Texts.withNet("towns 3;road 0 1 5;road 1 2 7");
        x.close(1);
        x.watch(1, 3);
        x.watch(2, 3);
        x.open(1);
        x.length(0, 1);
        x.origin(1);
        x.seed(77);
        x.keep();
        return x;
    }

    private static void netBeginsAnew() {
        KeptWays x = used();
        C.due("events before", x.count(8) > 0, true);
        C.due("net", Texts.net(x, "towns 4;road 0 1 5;road 1 0 7"), 3);
        int[] due = {4, 2, 2, 0, 0, 0, 2, 1, 0, 0, 0, -2, 0, 77};
        for (int i = 0; i < due.length; i++) {
            C.due("anew, but for X: count(" + i + ")", x.count(i), due[i]);
        }
        C.due("nothing is kept", x.undo(), false);
        C.due("no event", x.event(0, 0), NO);
        C.due("no limit", x.town(1, 10), NO);
        C.due("nobody touched", x.touched(0), -4);
    }

    private static void netStaysAtAFault() {
        String[] texts = {"towns 4;road 0 0 1", "road 0 1 1;road 1 0 -1",
            "towns 5;road 0 1 1000000000;road 1 2 1000000000;road 2 3 1000000000"};
        for (String text : texts) {
            KeptWays x = used();
            int[] before = new int[12];
            for (int i = 0; i < 12; i++) {
                before[i] = x.count(i);
            }
            C.holds("refused: " + text, Texts.net(x, text) < 0);
            for (int i = 0; i < 12; i++) {
                C.due("stays: count(" + i + ")", x.count(i), before[i]);
            }
            C.due("X stays", x.count(13), 77);
            C.due("what is kept stays", x.undo(), true);
        }
    }

    private static void ordersThatAreDone() {
        KeptWays x = Texts.withNet("towns 4;road 0 1 5");
        C.due("lay", Texts.orders(x, "lay 1 2 -3"), 1);
        C.due("its road", x.road(1, 2), -3);
        C.due("length", Texts.orders(x, "length 1 6"), 1);
        C.due("distance", x.town(2, 0), 11);
        C.due("close and open", Texts.orders(x, "close 1;open 1;close 0"), 3);
        C.due("turn", x.count(5), 5);
        C.due("open ones", x.count(2), 1);
        C.due("origin", Texts.orders(x, "origin 1"), 1);
        C.due("origin", x.count(3), 1);
        C.due("watch", Texts.orders(x, "watch 2 5;watch 3 -1000000000"), 2);
        C.due("watches", x.count(9), 12);
        C.due("limit", x.town(2, 10), 5);
        C.due("turn stays", x.count(5), 6);
        C.due("forget, then there is none", Texts.orders(x, "forget 2;forget 2;forget 3"), 1);
        C.due("watches", x.count(9), 8);
        C.due("till one is refused", Texts.orders(x, "open 0;open 0;close 0"), 1);
        C.due("what was behind is not done", x.road(0, 3), 1);
        C.due("a road that is not there", Texts.orders(x, "close 35;close 0"), 0);
        C.due("roads that orders lay", Texts.orders(x, "lay 2 3 1;length 2 2;close 2"), 3);
        C.due("same length", Texts.orders(x, "length 2 2"), 0);
        C.due("same origin", Texts.orders(x, "origin 1"), 0);
        C.due("ring", Texts.orders(x, "watch 0 1;lay 1 0 -5;watch 1 1"), 1);
        C.due("roads", x.count(1), 3);
        C.due("no room for a 37th", fullOrders(), 2);
        C.due("no such n", x.orders(0), -1);
        C.due("not so many", x.orders(1), -1);
        x.feed(0x6f70656e, 0x20320000, 0, 0, 0);
        C.due("not so many", x.orders(21), -1);
        C.due("the tape stays", x.orders(6), 1);
        C.due("the tape is empty", x.count(12), 0);
    }

    private static int fullOrders() {
        KeptWays x = Texts.withNet("towns 3");
        for (int i = 0; i < 34; i++) {
            x.lay(0, 1, 1);
        }
        return Texts.orders(x, "lay 0 1 1;lay 0 2 1;lay 1 2 1;close 0");
    }

    private static void orderFaults() {
        String[] texts = {
            "towns 3", "-1000", "road 0 1 1", "-1000", "lay 0 1 1;towns 3", "-1010", "closes 0", "-1000", "close", "-1005",
            "close 0;", "-1008", "close 0 1", "-1007", "close a", "-1006", "close -", "-1007", "length 0", "-1008",
            "lengt 0 1", "-1000", "origin 0 0", "-1008", "watch 0", "-1007", "forget 0 1", "-1008", "", "-1",
            "close 36", "-3006", "open 36", "-3005", "length 36 1", "-3007", "length -1 1", "-3007", "length 0 1000000001", "-3009",
            "origin 3", "-3007", "watch 3 1", "-3006", "watch 0 -1000000001", "-3008", "forget 3", "-3007", "lay 0 3 1", "-3006",
            "lay 3 3 1", "-3004", "lay 1 1 5", "-6006", "lay 1 1", "-6006", "close 00000000000", "-2016",
            "close 0;close x", "-1014", "lay 0 1 1;lay 1 1 1", "-6016",
        };
        for (int i = 0; i < texts.length; i += 2) {
            KeptWays x = Texts.withNet("towns 3;road 0 1 5");
            C.due("orders " + texts[i], Texts.orders(x, texts[i]), Integer.parseInt(texts[i + 1]));
            C.due("nothing is done at a fault", x.count(5), 0);
            C.due("roads stay", x.count(1), 1);
            C.due("the tape is empty", x.count(12), 0);
        }
    }

    private static void clausesTooMany() {
        StringBuilder text = new StringBuilder("close 0");
        for (int i = 1; i < 24; i++) {
            text.append(i % 2 == 0 ? ";close 0" : ";open 0");
        }
        KeptWays x = Texts.withNet("road 0 1 5");
        C.due("24 clauses", Texts.orders(x, text.toString()), 24);
        String[] more = {";close 0", ";", ";;", ";#", "; "};
        for (String end : more) {
            C.due("a clause too many: " + end, Texts.orders(x, text + end), -4000 - text.length() - 1);
        }
        C.due("what is no clause is 1 still", Texts.orders(x, text + "#"), -1000 - text.length());
        C.due("a fault to the left is first", Texts.orders(x, text.toString().replaceFirst("open 0", "open x") + ";close 0"), -1013);
        C.due("turn", x.count(5), 24);
    }

    private static int checkBytes(KeptWays x, int... bytes) {
        StringBuilder text = new StringBuilder();
        for (int b : bytes) {
            text.append((char) b);
        }
        Texts.feed(x, text.toString());
        return x.check(bytes.length);
    }

    private static void check() {
        KeptWays x = Texts.withNet("towns 4;road 0 1 5;road 1 2 3;road 0 2 9;road 3 1 4");
        C.due("right", checkBytes(x, 255, 0, 1, 255), -1);
        C.due("the tape is empty", x.count(12), 0);
        C.due("fewer", checkBytes(x, 255, 0), -1);
        C.due("none at all", x.check(0), -1);
        C.due("origin has none", checkBytes(x, 0, 0, 1, 255), 0);
        C.due("another road", checkBytes(x, 255, 0, 2, 255), 2);
        C.due("the first that is not so", checkBytes(x, 255, 1, 2, 255), 1);
        C.due("no parent, where one is", checkBytes(x, 255, 255, 1, 255), 1);
        C.due("a parent, where none is", checkBytes(x, 255, 0, 1, 3), 3);
        C.due("behind the last town nothing is", checkBytes(x, 255, 0, 1, 255, 255), 4);
        C.due("no such n", x.check(-1), -2);
        for (int i = 0; i < 2; i++) {
            x.feed(-1, -1, -1, -1, -1);
        }
        C.due("no such n", x.check(13), -2);
        C.due("the tape stays", x.count(12), 40);
        C.due("n 12", x.check(12), 1);
        C.due("the whole tape is empty", x.count(12), 0);
        C.due("not so many", x.check(1), -2);
    }
}
