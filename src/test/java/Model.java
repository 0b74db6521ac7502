import java.util.ArrayList;
import java.util.Arrays;
import java.util.Comparator;
import java.util.List;

/**
 * The document once more, in the slowest and plainest way: every way by no town twice is written
 * out, and what is asked is looked up among them. Good for small nets alone.
 */
public final class Model {
    static final long NO = KeptWays.NO_LENGTH;

    record Road(int from, int to, int length, boolean isOpen) {
        Road withLength(int l) {
            return new Road(from, to, l, isOpen);
        }

        Road turned() {
            return new Road(from, to, length, !isOpen);
        }
    }

    /** A way: the numbers of its roads, and its length. */
    record Way(List<Integer> roads, long length) {
    }

    private int n = 2;
    private List<Road> roads = new ArrayList<>();
    private int origin = 0;
    private List<Integer> touched = new ArrayList<>();
    private int turn = 0;
    private Integer[] limits = new Integer[12];
    private List<long[]> events = new ArrayList<>();
    private int x = 1;
    private StringBuilder tape = new StringBuilder();
    private Model kept = null;

    // ---- ways and rings, written out

    private static void collect(List<Road> net, int at, int goal, boolean[] seen, List<Integer> gone, long length, List<Way> out) {
        if (at == goal) {
            out.add(new Way(new ArrayList<>(gone), length));
            return;
        }
        for (int r = 0; r < net.size(); r++) {
            Road road = net.get(r);
            if (road.isOpen && road.from == at && !seen[road.to]) {
                seen[road.to] = true;
                gone.add(r);
                collect(net, road.to, goal, seen, gone, length + road.length, out);
                gone.remove(gone.size() - 1);
                seen[road.to] = false;
            }
        }
    }

    static List<Way> ways(List<Road> net, int from, int to) {
        List<Way> out = new ArrayList<>();
        boolean[] seen = new boolean[12];
        seen[from] = true;
        collect(net, from, to, seen, new ArrayList<>(), 0, out);
        return out;
    }

    static long least(List<Way> ways) {
        long best = NO;
        for (Way w : ways) {
            if (best == NO || w.length < best) {
                best = w.length;
            }
        }
        return best;
    }

    /** Every ring once for each of its roads. */
    static List<Way> rings(List<Road> net) {
        List<Way> out = new ArrayList<>();
        for (int r = 0; r < net.size(); r++) {
            Road road = net.get(r);
            if (!road.isOpen) {
                continue;
            }
            for (Way w : ways(net, road.to, road.from)) {
                List<Integer> all = new ArrayList<>(w.roads);
                all.add(r);
                out.add(new Way(all, w.length + road.length));
            }
        }
        return out;
    }

    static int refusal(List<Road> net, int start, int towns) {
        for (Way ring : rings(net)) {
            if (ring.length <= 0) {
                return -3;
            }
        }
        for (int t = 0; t < towns; t++) {
            long d = least(ways(net, start, t));
            if (d != NO && d != (int) d) {
                return -4;
            }
        }
        return 0;
    }

    private long dist(int t) {
        return least(ways(roads, origin, t));
    }

    private boolean isTown(int t) {
        return t >= 0 && t < n;
    }

    private boolean isRoad(int r) {
        return r >= 0 && r < roads.size();
    }

    private boolean isOpen(int r) {
        return isRoad(r) && roads.get(r).isOpen;
    }

    private static boolean isLength(long l) {
        return Math.abs(l) <= 1_000_000_000L;
    }

    private long slack(int r) {
        Road road = roads.get(r);
        long a = dist(road.from);
        long b = dist(road.to);
        return a == NO || b == NO ? NO : a + road.length - b;
    }

    private boolean tight(int r) {
        return isOpen(r) && slack(r) == 0;
    }

    private int parent(int t) {
        for (int r = 0; r < roads.size(); r++) {
            if (t != origin && roads.get(r).to == t && tight(r)) {
                return r;
            }
        }
        return -2;
    }

    private List<Integer> theWay(int t) {
        List<Integer> out = new ArrayList<>();
        for (int at = t; at != origin; ) {
            int p = parent(at);
            if (p < 0) {
                return null;
            }
            out.add(0, p);
            at = roads.get(p).from;
        }
        return out;
    }

    private boolean beyond(int t) {
        long d = dist(t);
        return d == NO || d > limits[t];
    }

    // ---- the face

    public int feed(int a, int b, int c, int d, int e) {
        if (tape.length() > 220) {
            return -1;
        }
        for (int v : new int[] {a, b, c, d, e}) {
            for (int i = 3; i >= 0; i--) {
                tape.append((char) (v >>> 8 * i & 255));
            }
        }
        return tape.length();
    }

    private String take(int n, int least, int most) {
        if (n < least || n > most || n > tape.length()) {
            return null;
        }
        String text = tape.substring(0, n);
        tape.setLength(0);
        return text;
    }

    public int net(int bytes) {
        String text = take(bytes, 1, 200);
        if (text == null) {
            return -1;
        }
        TextModel parsed = new TextModel(text, true, 2);
        if (parsed.fault != 0) {
            return parsed.fault;
        }
        List<Road> fresh = new ArrayList<>();
        for (TextModel.Clause c : parsed.clauses) {
            if (c.word().equals("road")) {
                fresh.add(new Road(c.at(0), c.at(1), c.at(2), true));
            }
        }
        int refused = refusal(fresh, 0, parsed.towns);
        if (refused != 0) {
            return refused;
        }
        n = parsed.towns;
        roads = fresh;
        origin = 0;
        touched = new ArrayList<>();
        turn = 0;
        limits = new Integer[12];
        events = new ArrayList<>();
        kept = null;
        return parsed.clauses.size();
    }

    public int orders(int bytes) {
        String text = take(bytes, 1, 200);
        if (text == null) {
            return -1;
        }
        TextModel parsed = new TextModel(text, false, n);
        if (parsed.fault != 0) {
            return parsed.fault;
        }
        int done = 0;
        for (TextModel.Clause c : parsed.clauses) {
            if (!order(c)) {
                return done;
            }
            done++;
        }
        return done;
    }

    private boolean order(TextModel.Clause c) {
        return switch (c.word()) {
            case "lay" -> lay(c.at(0), c.at(1), c.at(2)) >= 0;
            case "length" -> length(c.at(0), c.at(1)) >= 0;
            case "close" -> close(c.at(0)) >= 0;
            case "open" -> open(c.at(0)) >= 0;
            case "origin" -> origin(c.at(0)) >= 0;
            case "watch" -> watch(c.at(0), c.at(1)) >= 0;
            default -> forget(c.at(0));
        };
    }

    private int doChange(List<Road> net, int start) {
        int refused = refusal(net, start, n);
        if (refused != 0) {
            return refused;
        }
        long[] before = new long[n];
        boolean[] wasBeyond = new boolean[n];
        for (int t = 0; t < n; t++) {
            before[t] = dist(t);
            wasBeyond[t] = limits[t] != null && beyond(t);
        }
        roads = net;
        origin = start;
        turn++;
        touched = new ArrayList<>();
        for (int t = 0; t < n; t++) {
            if (dist(t) != before[t]) {
                touched.add(t);
            }
            if (limits[t] != null && beyond(t) != wasBeyond[t] && events.size() < 100) {
                events.add(new long[] {turn, t, beyond(t) ? 1 : 0, dist(t)});
            }
        }
        touched.sort(Comparator.comparingLong((Integer t) -> dist(t) == NO ? Long.MAX_VALUE : dist(t)).thenComparing(t -> t));
        return touched.size();
    }

    public int lay(int from, int to, int length) {
        if (!isTown(from) || !isTown(to) || from == to || !isLength(length)) {
            return -1;
        }
        if (roads.size() == 36) {
            return -5;
        }
        List<Road> net = new ArrayList<>(roads);
        net.add(new Road(from, to, length, true));
        int answer = doChange(net, origin);
        return answer < 0 ? answer : net.size() - 1;
    }

    private List<Road> with(int r, Road road) {
        List<Road> net = new ArrayList<>(roads);
        net.set(r, road);
        return net;
    }

    public int length(int r, int length) {
        if (!isRoad(r) || !isLength(length)) {
            return -1;
        }
        if (roads.get(r).length == length) {
            return -2;
        }
        return doChange(with(r, roads.get(r).withLength(length)), origin);
    }

    public int close(int r) {
        if (!isRoad(r)) {
            return -1;
        }
        return isOpen(r) ? doChange(with(r, roads.get(r).turned()), origin) : -2;
    }

    public int open(int r) {
        if (!isRoad(r)) {
            return -1;
        }
        return isOpen(r) ? -2 : doChange(with(r, roads.get(r).turned()), origin);
    }

    public int origin(int t) {
        if (!isTown(t)) {
            return -1;
        }
        return t == origin ? -2 : doChange(new ArrayList<>(roads), t);
    }

    public int count(int what) {
        int many = 0;
        switch (what) {
            case 0: return n;
            case 1: return roads.size();
            case 2:
                for (Road r : roads) {
                    many += r.isOpen ? 1 : 0;
                }
                return many;
            case 3: return origin;
            case 4: return touched.size();
            case 5: return turn;
            case 6:
                for (int t = 0; t < n; t++) {
                    many += dist(t) != NO ? 1 : 0;
                }
                return many;
            case 7:
                for (int r = 0; r < roads.size(); r++) {
                    many += tight(r) ? 1 : 0;
                }
                return many;
            case 8: return events.size();
            case 9:
                for (int t = 0; t < n; t++) {
                    many += limits[t] != null ? 1 << t : 0;
                }
                return many;
            case 10:
                for (int t = 0; t < n; t++) {
                    many += limits[t] != null && beyond(t) ? 1 << t : 0;
                }
                return many;
            case 11: return middle();
            case 12: return tape.length();
            case 13: return x;
            default: return -1;
        }
    }

    private int middle() {
        int best = -2;
        for (int t = 0; t < n; t++) {
            boolean all = true;
            for (int u = 0; u < n; u++) {
                all &= between(t, u) != NO;
            }
            if (all && (best == -2 || reach(t) < reach(best))) {
                best = t;
            }
        }
        return best;
    }

    private long reach(int t) {
        long best = NO;
        for (int u = 0; u < n; u++) {
            long b = between(t, u);
            if (u != t && b != NO) {
                best = Math.max(best, b);
            }
        }
        return best;
    }

    public long road(int r, int what) {
        if (!isRoad(r)) {
            return NO;
        }
        Road road = roads.get(r);
        return switch (what) {
            case 0 -> road.from;
            case 1 -> road.to;
            case 2 -> road.length;
            case 3 -> road.isOpen ? 1 : 0;
            case 4 -> tight(r) ? 1 : 0;
            case 5 -> parent(road.to) == r ? 1 : 0;
            default -> NO;
        };
    }

    public long change(int r, int what) {
        if (!isOpen(r) || what < 0 || what > 2) {
            return NO;
        }
        if (what == 0) {
            return slack(r);
        }
        if (what == 2) {
            return slack(r) == NO ? -1 : slack(r);
        }
        int others = 0;
        for (int o = 0; o < roads.size(); o++) {
            others += o != r && roads.get(o).to == roads.get(r).to && tight(o) ? 1 : 0;
        }
        return tight(r) && others == 0 ? 0 : -1;
    }

    private List<Way> shortestWays(int t) {
        List<Way> all = ways(roads, origin, t);
        long d = least(all);
        all.removeIf(w -> w.length != d);
        return all;
    }

    public long town(int t, int what) {
        if (!isTown(t)) {
            return NO;
        }
        List<Integer> way = theWay(t);
        switch (what) {
            case 0: return dist(t);
            case 1: return parent(t);
            case 2: return way == null ? -2 : way.size();
            case 3: return tightTo(t);
            case 4: return Math.min(1_000_000_000, shortestWays(t).size());
            case 5: return neededCount(t);
            case 6: return dearest(t, way);
            case 7: return next(t);
            case 8: return reach(t);
            case 9: return ring(t);
            case 10: return limits[t] == null ? NO : limits[t];
            case 11: return below(t);
            case 12: return group(t);
            case 13: return narrow(t);
            case 14: return apart(t);
            case 15: return comers(t);
            default: return NO;
        }
    }

    private int tightTo(int t) {
        int many = 0;
        for (int r = 0; r < roads.size(); r++) {
            many += roads.get(r).to == t && tight(r) ? 1 : 0;
        }
        return many;
    }

    private long neededCount(int t) {
        if (dist(t) == NO) {
            return -2;
        }
        int many = 0;
        for (int r = 0; r < roads.size(); r++) {
            many += isOpen(r) && needed(r, t) == 1 ? 1 : 0;
        }
        return many;
    }

    private long dearest(int t, List<Integer> way) {
        int best = -2;
        long most = 0;
        if (way == null) {
            return best;
        }
        List<Integer> sorted = new ArrayList<>(way);
        sorted.sort(null);
        for (int r : sorted) {
            long d = without(r, t);
            long far = d == NO ? Long.MAX_VALUE : d;
            if (best == -2 || far > most) {
                best = r;
                most = far;
            }
        }
        return best;
    }

    private long next(int t) {
        List<Way> all = ways(roads, origin, t);
        long d = least(all);
        all.removeIf(w -> w.length <= d);
        return least(all);
    }

    private long ring(int t) {
        List<Way> all = rings(roads);
        all.removeIf(w -> w.roads.stream().noneMatch(r -> roads.get(r).from == t));
        return least(all);
    }

    private int below(int t) {
        int many = 0;
        for (int u = 0; u < n; u++) {
            List<Integer> way = theWay(u);
            if (u != t && way != null) {
                many += way.stream().anyMatch(r -> roads.get(r).from == t) ? 1 : 0;
            }
        }
        return many;
    }

    private int group(int t) {
        int best = t;
        for (int u = n - 1; u >= 0; u--) {
            if (u < best && between(u, t) != NO && between(t, u) != NO) {
                best = u;
            }
        }
        return best;
    }

    private long narrow(int t) {
        long best = NO;
        for (Way w : ways(roads, origin, t)) {
            if (w.roads.isEmpty()) {
                return NO;
            }
            long longest = w.roads.stream().mapToLong(r -> roads.get(r).length).max().getAsLong();
            best = best == NO ? longest : Math.min(best, longest);
        }
        return best;
    }

    private long apart(int t) {
        if (t == origin) {
            return 0;
        }
        long best = NO;
        List<Way> all = ways(roads, origin, t);
        for (int i = 0; i < all.size(); i++) {
            for (int j = 0; j < i; j++) {
                Way a = all.get(i);
                Way b = all.get(j);
                long both = a.length + b.length;
                if ((best == NO || both < best) && a.roads.stream().noneMatch(b.roads::contains)) {
                    best = both;
                }
            }
        }
        return best;
    }

    private int comers(int t) {
        int many = 0;
        for (int u = 0; u < n; u++) {
            many += u != t && between(u, t) != NO ? 1 : 0;
        }
        return many;
    }

    public int way(int t, int i) {
        if (!isTown(t) || i < 0 || theWay(t) == null) {
            return -1;
        }
        return i < theWay(t).size() ? theWay(t).get(i) : -4;
    }

    public int needed(int r, int t) {
        if (!isOpen(r) || !isTown(t) || dist(t) == NO) {
            return -1;
        }
        for (Way w : shortestWays(t)) {
            if (!w.roads.contains(r)) {
                return 0;
            }
        }
        return 1;
    }

    public int touched(int i) {
        return i < 0 ? -1 : i < touched.size() ? touched.get(i) : -4;
    }

    public long without(int r, int t) {
        if (!isOpen(r) || !isTown(t)) {
            return NO;
        }
        return least(ways(with(r, roads.get(r).turned()), origin, t));
    }

    public long between(int a, int b) {
        return isTown(a) && isTown(b) ? least(ways(roads, a, b)) : NO;
    }

    public long free(int t, int some) {
        if (!isTown(t) || some < 0 || some > 3) {
            return NO;
        }
        long[][] row = new long[n][some + 1];
        for (long[] r : row) {
            Arrays.fill(r, NO);
        }
        row[origin][0] = 0;
        for (int step = 0; step < 5 * n; step++) {
            for (Road road : roads) {
                for (int k = 0; k <= some && road.isOpen; k++) {
                    if (row[road.from][k] == NO) {
                        continue;
                    }
                    long d = row[road.from][k];
                    row[road.to][k] = row[road.to][k] == NO ? d + road.length : Math.min(row[road.to][k], d + road.length);
                    if (road.length > 0 && k < some) {
                        row[road.to][k + 1] = row[road.to][k + 1] == NO ? d : Math.min(row[road.to][k + 1], d);
                    }
                }
            }
        }
        long best = NO;
        for (long d : row[t]) {
            best = d == NO ? best : best == NO ? d : Math.min(best, d);
        }
        return best;
    }

    public long hops(int t, int most) {
        if (!isTown(t) || most < 0 || most > 36) {
            return NO;
        }
        List<Way> all = ways(roads, origin, t);
        all.removeIf(w -> w.roads.size() > most);
        return least(all);
    }

    private boolean townBits(int bits) {
        return bits >= 0 && bits < 1 << n;
    }

    public long meet(int bits, int what) {
        if (!townBits(bits) || bits == 0 || what < 0 || what > 3) {
            return NO;
        }
        long best = NO;
        int where = -1;
        for (int t = 0; t < n; t++) {
            long sum = 0;
            long most = Long.MIN_VALUE;
            boolean all = true;
            for (int u = 0; u < n; u++) {
                if ((bits & 1 << u) != 0) {
                    long b = between(u, t);
                    all &= b != NO;
                    sum += b;
                    most = Math.max(most, b);
                }
            }
            long v = what < 2 ? sum : most;
            if (all && (where == -1 || v < best)) {
                where = t;
                best = v;
            }
        }
        return where == -1 ? NO : (what & 1) == 0 ? where : best;
    }

    public long through(int t, int by) {
        if (!isTown(t) || !isTown(by) || dist(by) == NO || between(by, t) == NO) {
            return NO;
        }
        return dist(by) + between(by, t);
    }

    public long shortcut(int length, int what) {
        if (!isLength(length) || what < 0 || what > 2) {
            return NO;
        }
        long[] best = {-2, -2, 0};
        for (int a = 0; a < n; a++) {
            for (int b = 0; b < n; b++) {
                if (a == b || dist(a) == NO) {
                    continue;
                }
                List<Road> net = new ArrayList<>(roads);
                net.add(new Road(a, b, length, true));
                if (refusal(net, origin, n) == -3) {
                    continue;
                }
                long gain = 0;
                for (int t = 0; t < n; t++) {
                    if (dist(t) != NO) {
                        gain += dist(t) - least(ways(net, origin, t));
                    }
                }
                if (gain > best[2]) {
                    best = new long[] {a, b, gain};
                }
            }
        }
        return best[2] == 0 ? -2 : best[what];
    }

    public long mean(int what) {
        List<Way> all = rings(roads);
        if (all.isEmpty() || what < 0 || what > 1) {
            return NO;
        }
        Way best = all.get(0);
        for (Way w : all) {
            if (w.length * best.roads.size() < best.length * w.roads.size()) {
                best = w;
            }
        }
        int many = best.roads.size();
        int common = many;
        while (many % common != 0 || best.length % common != 0) {
            common--;
        }
        return what == 0 ? best.length / common : many / common;
    }

    public long round(int bits, int what) {
        if (!townBits(bits) || what < 0 || what > 6) {
            return NO;
        }
        int others = bits & ~(1 << origin);
        if (Integer.bitCount(others) > 6) {
            return NO;
        }
        List<Integer> left = new ArrayList<>();
        for (int t = 0; t < n; t++) {
            if ((others & 1 << t) != 0) {
                left.add(t);
            }
        }
        List<List<Integer>> orders = new ArrayList<>();
        permute(new ArrayList<>(), left, orders);
        long best = NO;
        List<Integer> order = null;
        for (List<Integer> o : orders) {
            long all = roundLength(o);
            if (all != NO && (best == NO || all < best)) {
                best = all;
                order = o;
            }
        }
        if (best == NO || what == 0) {
            return best;
        }
        return what <= order.size() ? order.get(what - 1) : -4;
    }

    private static void permute(List<Integer> head, List<Integer> left, List<List<Integer>> out) {
        if (left.isEmpty()) {
            out.add(head);
        }
        for (Integer t : left) {
            List<Integer> more = new ArrayList<>(head);
            more.add(t);
            List<Integer> rest = new ArrayList<>(left);
            rest.remove(t);
            permute(more, rest, out);
        }
    }

    private long roundLength(List<Integer> order) {
        int at = origin;
        long all = 0;
        List<Integer> stops = new ArrayList<>(order);
        stops.add(origin);
        for (int t : stops) {
            long b = between(at, t);
            if (b == NO) {
                return NO;
            }
            all += b;
            at = t;
        }
        return all;
    }

    public int watch(int t, int limit) {
        if (!isTown(t) || !isLength(limit)) {
            return -1;
        }
        limits[t] = limit;
        return beyond(t) ? 1 : 0;
    }

    public boolean forget(int t) {
        if (!isTown(t) || limits[t] == null) {
            return false;
        }
        limits[t] = null;
        return true;
    }

    public long event(int i, int what) {
        return i < 0 || i >= events.size() || what < 0 || what > 3 ? NO : events.get(i)[what];
    }

    public int ifLength(int r, int length) {
        if (!isRoad(r) || !isLength(length)) {
            return -1;
        }
        if (!isOpen(r)) {
            return -6;
        }
        Model other = copy();
        return other.length(r, length);
    }

    public long drawn(int times, int t) {
        if (times < 1 || times > 60 || !isTown(t) || roads.isEmpty()) {
            return NO;
        }
        Model other = copy();
        int y = x;
        for (int i = 0; i < times; i++) {
            y = (int) ((25173L * y + 13849) % 65536);
            int r = y % roads.size();
            y = (int) ((25173L * y + 13849) % 65536);
            if (y % 8 == 0) {
                if (other.isOpen(r)) {
                    other.close(r);
                } else {
                    other.open(r);
                }
            } else {
                int l = other.roads.get(r).length + y % 41 - 10;
                other.length(r, l < -100 ? -100 : l > 10000 ? 10000 : l);
            }
        }
        return other.dist(t);
    }

    public boolean seed(int to) {
        if (to < 0 || to > 65535) {
            return false;
        }
        x = to;
        return true;
    }

    private Model copy() {
        Model m = new Model();
        m.n = n;
        m.take(this);
        return m;
    }

    private void take(Model o) {
        roads = new ArrayList<>(o.roads);
        origin = o.origin;
        touched = new ArrayList<>(o.touched);
        turn = o.turn;
        limits = o.limits.clone();
        events = new ArrayList<>(o.events);
        x = o.x;
    }

    public int keep() {
        kept = copy();
        return turn;
    }

    public boolean undo() {
        if (kept == null) {
            return false;
        }
        take(kept);
        return true;
    }

    public int check(int bytes) {
        String text = take(bytes, 0, 12);
        if (text == null) {
            return -2;
        }
        for (int i = 0; i < text.length(); i++) {
            int due = i >= n ? 256 : parent(i) < 0 ? 255 : parent(i);
            if (text.charAt(i) != due) {
                return i;
            }
        }
        return -1;
    }
}
