import java.util.Arrays;
import java.util.Random;

/**
 * The figures of nets that are as full as can be (12 towns, 36 roads), where the plain model is too slow.
 * All ways and rings by no town twice are gone once, and each figure is looked up on the way.
 */
public final class FullNetTest {
    private static final Checker C = new Checker("FullNetTest");
    private static final int TOWNS = 12;
    private static final int ROADS = 36;
    private static final long NO = KeptWays.NO_LENGTH;
    private static final long FAR = Long.MAX_VALUE / 4;

    /** Made anew for each town and for each question about all, as an object is good for 512 calls alone. */
    private KeptWays x = Texts.withNet("towns " + TOWNS);
    private final int[] from = new int[ROADS];
    private final int[] to = new int[ROADS];
    private final int[] far = new int[ROADS];
    private final boolean[] isOpen = new boolean[ROADS];
    private int origin;

    private final long[] least = filled(FAR);
    private final long[] next = filled(FAR);
    private final long[] narrow = filled(FAR);
    private final long[] many = filled(0);
    private final long[] common = filled(0);
    private final long[][] hops = new long[TOWNS][TOWNS];
    private final long[] apart = filled(FAR);
    private final long[] ring = filled(FAR);
    private long meanAbove = FAR;
    private long meanBelow = 1;
    private long[][] between;

    public static void main(String[] args) {
        int runs = args.length > 0 ? Integer.parseInt(args[0]) : 200;
        for (int run = 0; run < runs; run++) {
            new FullNetTest(new Random(1000 + run), run % 4).compareAll("net " + run);
        }
        C.end();
    }

    private static long[] filled(long with) {
        long[] row = new long[TOWNS];
        Arrays.fill(row, with);
        return row;
    }

    /** Lengths by heights: many ways are as short, and many lengths are below 0. */
    private FullNetTest(Random chance, int kind) {
        int[] heights = {30, 1, 400_000_000, 8};
        int[] steps = {3, 5, 500_000_000, 2};
        int[] height = new int[TOWNS];
        for (int t = 0; t < TOWNS; t++) {
            height[t] = chance.nextInt(heights[kind]);
        }
        for (int tries = 0; x.count(1) < ROADS && tries < 5000; tries++) {
            int a = chance.nextInt(TOWNS);
            int b = (a + 1 + chance.nextInt(TOWNS - 1)) % TOWNS;
            int length = height[b] - height[a] + chance.nextInt(steps[kind]);
            int road = x.lay(a, b, length);
            if (road >= 0) {
                from[road] = a;
                to[road] = b;
                far[road] = length;
                isOpen[road] = true;
            }
        }
        for (int i = 0; i < 3; i++) {
            int road = chance.nextInt(ROADS);
            isOpen[road] ^= (isOpen[road] ? x.close(road) : x.open(road)) >= 0;
        }
        x.origin(chance.nextInt(TOWNS));
        origin = x.count(3);
    }

    private void makeAnew() {
        x = Texts.withNet("towns " + TOWNS);
        for (int r = 0; r < ROADS; r++) {
            x.lay(from[r], to[r], far[r]);
        }
        for (int r = 0; r < ROADS; r++) {
            if (!isOpen[r]) {
                x.close(r);
            }
        }
        x.origin(origin);
    }

    private void compareAll(String net) {
        C.due(net + ": roads", x.count(1), ROADS);
        for (long[] row : hops) {
            Arrays.fill(row, FAR);
        }
        goWays(origin, 1 << origin, 0L, 0L, -FAR, 0);
        goApart(origin, 1 << origin, 0L, 0L);
        for (int start = 0; start < TOWNS; start++) {
            goRings(start, start, 1 << start, 0L, 0);
        }
        between = betweens(-1, 0, 0);
        for (int t = 0; t < TOWNS; t++) {
            makeAnew();
            C.due(net + ": made anew, roads", x.count(1), ROADS);
            C.due(net + ": made anew, origin", x.count(3), origin);
            compareTown(net + ": town " + t, t);
        }
        makeAnew();
        long divisor = gcd(meanAbove, meanBelow);
        C.due(net + ": mean(0)", x.mean(0), meanAbove == FAR ? NO : meanAbove / divisor);
        C.due(net + ": mean(1)", x.mean(1), meanAbove == FAR ? NO : meanBelow / divisor);
        for (int length : new int[] {-5, 0, 1, 7, -300_000_000, 1_000_000_000, -1_000_000_000}) {
            compareShortcut(net + ": shortcut of " + length, length);
        }
        Random chance = new Random(origin);
        makeAnew();
        for (int i = 0; i < 20; i++) {
            compareRound(net, chance.nextInt(1 << TOWNS));
            int some = 1 + chance.nextInt((1 << TOWNS) - 1);
            compareMeeting(net + ": meeting of " + some, some);
        }
        C.due(net + ": middle", x.count(11), middle());
    }

    private static long told(long length) {
        return length >= FAR ? NO : length;
    }

    private static long gcd(long a, long b) {
        return b == 0 ? a : gcd(b, a % b);
    }

    // ---- ways that are gone one by one

    private void goWays(int at, int seen, long roads, long length, long longest, int count) {
        takeWay(at, roads, length, longest, count);
        for (int r = 0; r < ROADS; r++) {
            if (isOpen[r] && from[r] == at && (seen >> to[r] & 1) == 0) {
                goWays(to[r], seen | 1 << to[r], roads | 1L << r, length + far[r], Math.max(longest, far[r]), count + 1);
            }
        }
    }

    private void takeWay(int t, long roads, long length, long longest, int count) {
        if (length < least[t]) {
            next[t] = least[t];
            least[t] = length;
            many[t] = 0;
            common[t] = -1L;
        } else if (length > least[t]) {
            next[t] = Math.min(next[t], length);
        }
        if (length == least[t]) {
            many[t]++;
            common[t] &= roads;
        }
        narrow[t] = Math.min(narrow[t], longest);
        hops[t][count] = Math.min(hops[t][count], length);
    }

    private void goApart(int at, int seen, long roads, long length) {
        if (length + least[at] < apart[at]) {
            long other = distances(roads)[at];
            apart[at] = other < FAR ? Math.min(apart[at], length + other) : apart[at];
        }
        for (int r = 0; r < ROADS; r++) {
            if (isOpen[r] && from[r] == at && (seen >> to[r] & 1) == 0) {
                goApart(to[r], seen | 1 << to[r], roads | 1L << r, length + far[r]);
            }
        }
    }

    private void goRings(int start, int at, int seen, long length, int count) {
        for (int r = 0; r < ROADS; r++) {
            if (!isOpen[r] || from[r] != at) {
                continue;
            }
            if (to[r] == start) {
                takeRing(start, length + far[r], count + 1);
            } else if ((seen >> to[r] & 1) == 0) {
                goRings(start, to[r], seen | 1 << to[r], length + far[r], count + 1);
            }
        }
    }

    private void takeRing(int start, long length, int count) {
        ring[start] = Math.min(ring[start], length);
        if (meanAbove == FAR || length * meanBelow < meanAbove * count) {
            meanAbove = length;
            meanBelow = count;
        }
    }

    /** The distances with some roads left out (bits). */
    private long[] distances(long leftOut) {
        long[] row = filled(FAR);
        row[origin] = 0;
        for (int i = 0; i < TOWNS; i++) {
            for (int r = 0; r < ROADS; r++) {
                if (isOpen[r] && (leftOut >> r & 1) == 0 && row[from[r]] < FAR) {
                    row[to[r]] = Math.min(row[to[r]], row[from[r]] + far[r]);
                }
            }
        }
        return row;
    }

    /** All betweens, with one road more (from -1: none). */
    private long[][] betweens(int a, int b, int length) {
        long[][] out = new long[TOWNS][];
        for (int t = 0; t < TOWNS; t++) {
            out[t] = filled(FAR);
            out[t][t] = 0;
        }
        for (int r = 0; r < ROADS; r++) {
            if (isOpen[r]) {
                out[from[r]][to[r]] = Math.min(out[from[r]][to[r]], far[r]);
            }
        }
        if (a >= 0) {
            out[a][b] = Math.min(out[a][b], length);
        }
        for (int by = 0; by < TOWNS; by++) {
            for (int i = 0; i < TOWNS; i++) {
                for (int j = 0; j < TOWNS; j++) {
                    if (out[i][by] < FAR && out[by][j] < FAR) {
                        out[i][j] = Math.min(out[i][j], out[i][by] + out[by][j]);
                    }
                }
            }
        }
        return out;
    }

    // ---- what is compared

    private void compareTown(String name, int t) {
        boolean isSome = least[t] < FAR;
        C.due(name + ", distance", x.town(t, 0), told(least[t]));
        C.due(name + ", ways as short", x.town(t, 4), many[t]);
        C.due(name + ", needed", x.town(t, 5), isSome ? Long.bitCount(common[t]) : -2);
        C.due(name + ", next", x.town(t, 7), told(next[t]));
        C.due(name + ", ring", x.town(t, 9), told(ring[t]));
        C.due(name + ", narrow", x.town(t, 13), t == origin ? NO : told(narrow[t]));
        C.due(name + ", apart", x.town(t, 14), t == origin ? 0 : told(apart[t]));
        for (int r = 0; r < ROADS; r++) {
            if (isOpen[r]) {
                C.due(name + ", needed " + r, x.needed(r, t), isSome ? common[t] >> r & 1 : -1);
                C.due(name + ", without " + r, x.without(r, t), told(distances(1L << r)[t]));
            }
        }
        long best = FAR;
        for (int most = 0; most <= ROADS; most++) {
            best = most < TOWNS ? Math.min(best, hops[t][most]) : best;
            C.due(name + ", hops " + most, x.hops(t, most), told(best));
        }
        for (int some = 0; some <= 3; some++) {
            C.due(name + ", free " + some, x.free(t, some), told(freeWay(t, some)));
        }
        compareBetweens(name, t);
        C.due(name + ", dearest", x.town(t, 6), dearest(t));
    }

    private void compareBetweens(String name, int t) {
        long reach = -FAR;
        int group = t;
        int comers = 0;
        for (int u = TOWNS - 1; u >= 0; u--) {
            C.due(name + ", between to " + u, x.between(t, u), told(between[t][u]));
            boolean isWay = between[origin][t] < FAR && between[t][u] < FAR;
            C.due(name + ", through to " + u, x.through(u, t), isWay ? between[origin][t] + between[t][u] : NO);
            boolean comesBack = between[u][t] < FAR;
            reach = u != t && between[t][u] < FAR ? Math.max(reach, between[t][u]) : reach;
            group = u < group && comesBack && between[t][u] < FAR ? u : group;
            comers += u != t && comesBack ? 1 : 0;
        }
        C.due(name + ", reach", x.town(t, 8), reach == -FAR ? NO : reach);
        C.due(name + ", group", x.town(t, 12), group);
        C.due(name + ", comers", x.town(t, 15), comers);
    }

    /** Of the roads of the way as it is told, each of which is tight. */
    private int dearest(int t) {
        long most = -FAR;
        int dearest = -2;
        long wayBits = 0;
        for (int i = 0; i < TOWNS && x.way(t, i) >= 0; i++) {
            wayBits |= 1L << x.way(t, i);
        }
        for (int r = 0; r < ROADS; r++) {
            long lost = distances(1L << r)[t];
            if ((wayBits >> r & 1) != 0 && lost > most) {
                most = lost;
                dearest = r;
            }
        }
        return dearest;
    }

    private void compareMeeting(String name, int towns) {
        long[] best = {FAR, FAR};
        int[] where = {-1, -1};
        for (int at = 0; at < TOWNS; at++) {
            long[] all = {0, -FAR};
            for (int t = 0; t < TOWNS; t++) {
                if ((towns >> t & 1) != 0) {
                    all[0] = all[0] >= FAR || between[t][at] >= FAR ? FAR : all[0] + between[t][at];
                    all[1] = Math.max(all[1], between[t][at]);
                }
            }
            for (int i = 0; i < 2; i++) {
                where[i] = all[i] < best[i] ? at : where[i];
                best[i] = Math.min(best[i], all[i]);
            }
        }
        for (int i = 0; i < 2; i++) {
            C.due(name + ", " + 2 * i, x.meet(towns, 2 * i), where[i] < 0 ? NO : where[i]);
            C.due(name + ", " + (2 * i + 1), x.meet(towns, 2 * i + 1), told(best[i]));
        }
    }

    private int middle() {
        int middle = -2;
        long least = FAR;
        for (int t = 0; t < TOWNS; t++) {
            long reach = -FAR;
            for (int u = 0; u < TOWNS; u++) {
                reach = u == t ? reach : Math.max(reach, between[t][u]);
            }
            middle = reach < least ? t : middle;
            least = Math.min(least, reach);
        }
        return middle;
    }

    private long freeWay(int town, int some) {
        long[][] row = new long[some + 1][];
        for (int k = 0; k <= some; k++) {
            row[k] = k == 0 ? distances(0) : row[k - 1].clone();
            for (int i = 0; i < 2 * TOWNS && k > 0; i++) {
                for (int r = 0; r < ROADS; r++) {
                    if (isOpen[r] && row[k][from[r]] < FAR) {
                        row[k][to[r]] = Math.min(row[k][to[r]], row[k][from[r]] + far[r]);
                    }
                    if (isOpen[r] && row[k - 1][from[r]] < FAR && far[r] > 0) {
                        row[k][to[r]] = Math.min(row[k][to[r]], row[k - 1][from[r]]);
                    }
                }
            }
        }
        return row[some][town];
    }

    private void compareShortcut(String name, int length) {
        long[] best = {-2, -2, -2};
        for (int a = 0; a < TOWNS; a++) {
            for (int b = 0; b < TOWNS; b++) {
                if (a == b || least[a] >= FAR || between[b][a] < FAR && between[b][a] + length <= 0) {
                    continue;
                }
                long[] later = betweens(a, b, length)[origin];
                long saved = 0;
                for (int t = 0; t < TOWNS; t++) {
                    saved += least[t] < FAR ? least[t] - later[t] : 0;
                }
                if (saved > Math.max(0, best[2])) {
                    best = new long[] {a, b, saved};
                }
            }
        }
        for (int what = 0; what < 3; what++) {
            C.due(name + ", " + what, x.shortcut(length, what), best[what]);
        }
    }

    /** The least that is left from a town by all of some others back, each asked for anew. */
    private long roundRest(int at, int left) {
        if (left == 0) {
            return between[at][origin];
        }
        long best = FAR;
        for (int t = 0; t < TOWNS; t++) {
            if ((left >> t & 1) != 0 && between[at][t] < FAR) {
                long rest = roundRest(t, left & ~(1 << t));
                best = rest < FAR ? Math.min(best, between[at][t] + rest) : best;
            }
        }
        return best;
    }

    private void compareRound(String net, int towns) {
        int left = towns & ~(1 << origin);
        String name = net + ": round of " + towns;
        if (Integer.bitCount(left) > 6) {
            C.due(name, x.round(towns, 0), NO);
            return;
        }
        long all = roundRest(origin, left);
        C.due(name, x.round(towns, 0), told(all));
        int at = origin;
        for (int what = 1; what <= 6 && all < FAR; what++) {
            int then = left == 0 ? -4 : firstOf(at, left);
            C.due(name + ", " + what, x.round(towns, what), then);
            left = then < 0 ? 0 : left & ~(1 << then);
            at = Math.max(0, then);
        }
    }

    private int firstOf(int at, int left) {
        long all = roundRest(at, left);
        for (int t = 0; t < TOWNS; t++) {
            if ((left >> t & 1) != 0 && between[at][t] < FAR && between[at][t] + roundRest(t, left & ~(1 << t)) == all) {
                return t;
            }
        }
        return -1;
    }
}
