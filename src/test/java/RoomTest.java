import java.lang.management.ManagementFactory;
import java.util.Random;

/** Calls with any ints in nets as full as can be: none throws, all end soon, none makes objects. */
public final class RoomTest {
    private static final Checker C = new Checker("RoomTest");
    private static final int[] ODD = {0, 1, -1, 2, 11, 12, 13, 35, 36, 37, 60, 61, 200, 240, 511, 4095, 4096, 65535, 65536,
        1_000_000_000, 1_000_000_001, -1_000_000_000, -1_000_000_001, Integer.MAX_VALUE, Integer.MIN_VALUE};

    private RoomTest() {
    }

    public static void main(String[] args) {
        anyInts();
        fullNets();
        nextBesideRing();
        nextAmongTwins();
        noObjects();
        C.end();
    }

    private static void anyInts() {
        Random chance = new Random(5);
        for (int run = 0; run < 300; run++) {
            KeptWays x = run % 3 == 0 ? new KeptWays() : fullNet(chance, 2 + chance.nextInt(11));
            long sum = 0;
            for (int i = 0; i < 470; i++) {
                sum += call(x, chance.nextInt(33), odd(chance), odd(chance), odd(chance));
            }
            C.holds("ended", sum != 1);
        }
    }

    private static int odd(Random chance) {
        return chance.nextInt(3) == 0 ? chance.nextInt() : chance.nextInt(2) == 0 ? chance.nextInt(12) : ODD[chance.nextInt(ODD.length)];
    }

    private static KeptWays fullNet(Random chance, int towns) {
        KeptWays x = Texts.withNet("towns " + towns);
        int[] height = new int[towns];
        for (int t = 0; t < towns; t++) {
            height[t] = chance.nextInt(40);
        }
        for (int i = 0; i < 36; i++) {
            int a = chance.nextInt(towns);
            int b = (a + 1 + chance.nextInt(towns - 1)) % towns;
            x.lay(a, b, height[b] - height[a] + 1 + chance.nextInt(3));
        }
        return x;
    }

    private static long call(KeptWays x, int which, int a, int b, int c) {
        switch (which) {
            case 0: return x.feed(a, b, c, a, b);
            case 1: return x.net(a);
            case 2: return x.orders(a);
            case 3: return x.lay(a, b, c);
            case 4: return x.length(a, b);
            case 5: return x.close(a);
            case 6: return x.open(a);
            case 7: return x.origin(a);
            case 8: return x.count(a);
            case 9: return x.road(a, b);
            case 10: return x.change(a, b);
            case 11: return x.town(a, b);
            case 12: return x.way(a, b);
            case 13: return x.needed(a, b);
            case 14: return x.touched(a);
            case 15: return x.without(a, b);
            case 16: return x.between(a, b);
            case 17: return x.free(a, b);
            case 18: return x.hops(a, b);
            case 19: return x.meet(a, b);
            case 20: return x.through(a, b);
            case 21: return x.shortcut(a, b);
            case 22: return x.mean(a);
            case 23: return x.round(a, b);
            case 24: return x.watch(a, b);
            case 25: return x.forget(a) ? 1 : 0;
            case 26: return x.event(a, b);
            case 27: return x.ifLength(a, b);
            case 28: return x.drawn(a, b);
            case 29: return x.seed(a) ? 1 : 0;
            case 30: return x.keep();
            case 31: return x.undo() ? 1 : 0;
            default: return x.check(a);
        }
    }

    /** Every figure of full nets: a search that is not cut short would be noticed here. */
    private static void fullNets() {
        Random chance = new Random(7);
        long begin = System.nanoTime();
        for (int run = 0; run < 200; run++) {
            KeptWays x = fullNet(chance, 12);
            for (int t = 0; t < 12; t++) {
                for (int what = 0; what < 16; what++) {
                    x.town(t, what);
                }
                x.round(chance.nextInt(4096), t % 7);
                x.shortcut(chance.nextInt(40) - 20, 2);
                x.drawn(60, t);
            }
        }
        C.holds("full nets within a minute", System.nanoTime() - begin < 60_000_000_000L);
    }

    /** Hundreds of thousands of ways lead around the ring, and none of them to town 11 by no town twice. */
    private static void nextBesideRing() {
        KeptWays x = Texts.withNet("towns 12");
        x.lay(0, 11, 1);
        x.lay(10, 0, 1);
        for (int i = 0; i < 34; i++) {
            x.lay(i % 10, i % 10 + 1, 1 + i);
        }
        long begin = System.nanoTime();
        boolean isNone = true;
        for (int i = 0; i < 470; i++) {
            isNone &= x.town(11, 7) == KeptWays.NO_LENGTH;
        }
        C.due("roads of the ring", x.count(1), 36);
        C.holds("no next way beside the ring", isNone);
        C.holds("next ways beside a ring within three seconds", System.nanoTime() - begin < 3_000_000_000L);
    }

    /** There are 3 by 3 by .. ways as short, as three roads are alike from each town to the next. */
    private static void nextAmongTwins() {
        KeptWays x = Texts.withNet("towns 12");
        for (int i = 0; i < 33; i++) {
            x.lay(i % 11, i % 11 + 1, 1);
        }
        x.lay(10, 11, 7);
        long begin = System.nanoTime();
        boolean isRight = true;
        for (int i = 0; i < 440; i++) {
            isRight &= x.town(11, 7) == 17;
        }
        C.due("ways as short", x.town(11, 4), 177_147);
        C.holds("next way by the last road", isRight);
        C.holds("next ways among twins within three seconds", System.nanoTime() - begin < 3_000_000_000L);
    }

    private static void noObjects() {
        var threads = (com.sun.management.ThreadMXBean) ManagementFactory.getThreadMXBean();
        long me = Thread.currentThread().getId();
        KeptWays x = fullNet(new Random(9), 12);
        Random chance = new Random(11);
        int[] some = new int[470 * 4];
        for (int i = 0; i < some.length; i++) {
            some[i] = i % 4 == 0 ? chance.nextInt(33) : chance.nextInt(12);
        }
        long before = threads.getThreadAllocatedBytes(me);
        long sum = 0;
        for (int i = 0; i < some.length; i += 4) {
            sum += call(x, some[i], some[i + 1], some[i + 2], some[i + 3]);
        }
        long used = threads.getThreadAllocatedBytes(me) - before;
        C.holds("470 calls make no objects: " + used + " bytes, " + sum, used < 10_000);
    }
}
