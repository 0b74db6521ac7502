import java.util.Arrays;

/**
 * Shortest ways from one town that are kept while one-way roads change.
 * What each call answers is told by the document, promise by promise (see README.md).
 */
public final class KeptWays {
    /** There is none. */
    public static final int NONE = -1;
    /** What is told where a length is asked for and there is none. */
    public static final long NO_LENGTH = -9000000000000000000L;

    private static final int MOST_TOWNS = 12;
    private static final int FIRST_TOWNS = 2;
    private static final int MOST_ROADS = 36;
    private static final int LONGEST = 1000000000;
    private static final int LEAST_INT = -2147483648;
    private static final int GREATEST_INT = 2147483647;
    private static final int MOST_BYTES = 240;
    private static final int MOST_TEXT = 200;
    private static final int MOST_CLAUSES = 24;
    private static final int NUMBERS_A_CLAUSE = 3;
    private static final int MOST_EVENTS = 100;
    private static final int EVENT_CELLS = 4;
    private static final int MOST_ROUND = 6;
    private static final int MOST_DRAWS = 60;
    private static final int MOST_FREE = 3;
    private static final int FIRST_X = 1;
    private static final int DRAW_SPAN = 65536;
    private static final int NO_PARENT_BYTE = 255;

    private static final int NOT_THERE = -2;
    private static final int AS_IT_IS = -2;
    private static final int BAD_RING = -3;
    private static final int TOO_FAR = -4;
    private static final int NOT_SO_MANY = -4;
    private static final int NO_ROOM = -5;
    private static final int IS_CLOSED = -6;
    private static final int WITHOUT_END = -1;

    private static final int WORD_TOWNS = 0;
    private static final int WORD_ROAD = 1;
    private static final int WORD_LAY = 2;
    private static final int WORD_LENGTH = 3;
    private static final int WORD_CLOSE = 4;
    private static final int WORD_OPEN = 5;
    private static final int WORD_ORIGIN = 6;
    private static final int WORD_WATCH = 7;
    private static final int WORD_FORGET = 8;

    private final State now = new State();
    private final State kept = new State();
    private boolean isKept;
    private final Tape tape = new Tape();
    private final Reader reader = new Reader();
    private final Pairs pairs = new Pairs();
    private final Rows rows = new Rows();
    private final NextSearch nextSearch = new NextSearch(now);
    private final RoundSearch roundSearch = new RoundSearch(pairs);
    private final long[] shortcutFound = new long[3];
    /** Where a change is tried before it is done, and what would never be done. */
    private final Roads aside = new Roads();
    private final long[] asideDist = new long[MOST_TOWNS];

    /** Two towns without roads. */
    public KeptWays() {
    }

    // ---- the tape and texts

    public int feed(int a, int b, int c, int d, int e) {
        if (tape.size + 20 > MOST_BYTES) {
            return NONE;
        }
        tape.addInt(a);
        tape.addInt(b);
        tape.addInt(c);
        tape.addInt(d);
        tape.addInt(e);
        return tape.size;
    }

    public int net(int n) {
        if (!tape.canGive(n, 1, MOST_TEXT)) {
            return NONE;
        }
        int fault = reader.readText(tape.bytes, n, true, FIRST_TOWNS);
        tape.size = 0;
        return fault != 0 ? fault : buildNet();
    }

    private int buildNet() {
        aside.beginWith(reader.towns);
        for (int i = 0; i < reader.clauses; i++) {
            if (reader.word[i] != WORD_ROAD) {
                continue;
            }
            int added = aside.addRoad(reader.number(i, 0), reader.number(i, 1), reader.number(i, 2));
            if (added >= 0 && aside.makesBadRing(added, rows.spare)) {
                return BAD_RING;
            }
        }
        aside.settle(0, NONE, asideDist);
        if (!aside.allInts(asideDist)) {
            return TOO_FAR;
        }
        now.beginWith(aside, asideDist);
        isKept = false;
        pairs.isRight = false;
        return reader.clauses;
    }

    public int orders(int n) {
        if (!tape.canGive(n, 1, MOST_TEXT)) {
            return NONE;
        }
        int fault = reader.readText(tape.bytes, n, false, now.roads.towns);
        tape.size = 0;
        if (fault != 0) {
            return fault;
        }
        int done = 0;
        while (done < reader.clauses && doOrder(done)) {
            done++;
        }
        return done;
    }

    private boolean doOrder(int i) {
        int a = reader.number(i, 0);
        int b = reader.number(i, 1);
        switch (reader.word[i]) {
            case WORD_LAY:
                return layRoad(a, b, reader.number(i, 2)) >= 0;
            case WORD_LENGTH:
                return changeLength(a, b) >= 0;
            case WORD_CLOSE:
                return turnRoad(a, false) >= 0;
            case WORD_OPEN:
                return turnRoad(a, true) >= 0;
            case WORD_ORIGIN:
                return moveOrigin(a) >= 0;
            case WORD_WATCH:
                return watchTown(a, b) >= 0;
            case WORD_FORGET:
                return forgetTown(a);
            default:
                return false;
        }
    }

    // ---- changes

    public int lay(int from, int to, int length) {
        return layRoad(from, to, length);
    }

    private int layRoad(int from, int to, int length) {
        if (!now.roads.hasTown(from) || !now.roads.hasTown(to) || from == to || !isLength(length)) {
            return NONE;
        }
        if (now.roads.laid >= MOST_ROADS) {
            return NO_ROOM;
        }
        aside.copyFrom(now.roads);
        int added = aside.addRoad(from, to, length);
        int answer = doChange(added, now.origin);
        return answer < 0 ? answer : added;
    }

    public int length(int road, int length) {
        return changeLength(road, length);
    }

    private int changeLength(int road, int length) {
        if (!now.roads.hasRoad(road) || !isLength(length)) {
            return NONE;
        }
        if (now.roads.far[road] == length) {
            return AS_IT_IS;
        }
        aside.copyFrom(now.roads);
        aside.far[road] = length;
        return doChange(road, now.origin);
    }

    public int close(int road) {
        return turnRoad(road, false);
    }

    public int open(int road) {
        return turnRoad(road, true);
    }

    private int turnRoad(int road, boolean toOpen) {
        if (!now.roads.hasRoad(road)) {
            return NONE;
        }
        if (now.roads.isOpen(road) == toOpen) {
            return AS_IT_IS;
        }
        aside.copyFrom(now.roads);
        aside.flip(road);
        return doChange(road, now.origin);
    }

    public int origin(int town) {
        return moveOrigin(town);
    }

    private int moveOrigin(int town) {
        if (!now.roads.hasTown(town)) {
            return NONE;
        }
        if (now.origin == town) {
            return AS_IT_IS;
        }
        aside.copyFrom(now.roads);
        return doChange(NONE, town);
    }

    /** Does what stands aside, if it may be: how many are touched, or why not. */
    private int doChange(int road, int start) {
        int refused = judgeAside(road, start);
        if (refused != 0) {
            return refused;
        }
        now.takeOver(aside, start, asideDist);
        pairs.isRight = false;
        return now.touchedCount;
    }

    /** 0 if the roads aside may be, of which only this one is another than before. */
    private int judgeAside(int road, int start) {
        if (aside.makesBadRing(road, rows.spare)) {
            return BAD_RING;
        }
        aside.settle(start, NONE, asideDist);
        return aside.allInts(asideDist) ? 0 : TOO_FAR;
    }

    private static boolean isLength(int length) {
        return length >= -LONGEST && length <= LONGEST;
    }

    // ---- what is told of all, of roads, of towns

    public int count(int what) {
        switch (what) {
            case 0: return now.roads.towns;
            case 1: return now.roads.laid;
            case 2: return Long.bitCount(now.roads.openBits);
            case 3: return now.origin;
            case 4: return now.touchedCount;
            case 5: return now.turn;
            case 6: return now.settledCount();
            case 7: return now.tightCount();
            case 8: return now.log.size;
            case 9: return now.watched;
            case 10: return now.beyondBits();
            case 11: return rightPairs().middleTown();
            case 12: return tape.size;
            case 13: return now.x;
            default: return NONE;
        }
    }

    public long road(int road, int what) {
        Roads roads = now.roads;
        if (!roads.hasRoad(road)) {
            return NO_LENGTH;
        }
        switch (what) {
            case 0: return roads.from[road];
            case 1: return roads.to[road];
            case 2: return roads.far[road];
            case 3: return roads.isOpen(road) ? 1 : 0;
            case 4: return now.isTight(road) ? 1 : 0;
            case 5: return now.parent[roads.to[road]] == road ? 1 : 0;
            default: return NO_LENGTH;
        }
    }

    public long change(int road, int what) {
        if (!now.roads.isOpen(road)) {
            return NO_LENGTH;
        }
        long slack = now.slackOf(road);
        switch (what) {
            case 0:
                return slack;
            case 1:
                return slack == 0 && now.tightTo(now.roads.to[road]) == 1 ? 0 : WITHOUT_END;
            case 2:
                return slack == NO_LENGTH ? WITHOUT_END : slack;
            default:
                return NO_LENGTH;
        }
    }

    public long town(int town, int what) {
        if (!now.roads.hasTown(town)) {
            return NO_LENGTH;
        }
        switch (what) {
            case 0: return now.dist[town];
            case 1: return now.parent[town] == NONE ? NOT_THERE : now.parent[town];
            case 2: return now.hasDistance(town) ? findWay(town) : NOT_THERE;
            case 3: return now.tightTo(town);
            case 4: return rows.waysAsShort(now, town);
            case 5: return now.hasDistance(town) ? neededCount(town) : NOT_THERE;
            case 6: return dearestRoad(town);
            case 7: return now.hasDistance(town) ? nextSearch.findNext(town) : NO_LENGTH;
            case 8: return rightPairs().reachOf(town);
            case 9: return rightPairs().ringOf(now.roads, town);
            case 10: return now.isWatched(town) ? now.limit[town] : NO_LENGTH;
            case 11: return now.belowCount(town);
            case 12: return rightPairs().groupOf(town);
            case 13: return rows.narrowest(now, town);
            case 14: return apartLength(town);
            case 15: return rightPairs().comersTo(town);
            default: return NO_LENGTH;
        }
    }

    private Pairs rightPairs() {
        if (!pairs.isRight) {
            pairs.fillFrom(now.roads);
        }
        return pairs;
    }

    // ---- the way, and ways without a road

    public int way(int town, int i) {
        if (i < 0 || !now.roads.hasTown(town) || !now.hasDistance(town)) {
            return NONE;
        }
        return i < findWay(town) ? rows.wayRoads[i] : NOT_SO_MANY;
    }

    private int findWay(int town) {
        return rows.findWay(now, town);
    }

    public int needed(int road, int town) {
        if (!now.roads.isOpen(road) || !now.roads.hasTown(town) || !now.hasDistance(town)) {
            return NONE;
        }
        return isNeeded(road, town) ? 1 : 0;
    }

    /** A road is on all ways as short just if its loss makes the town farther. */
    private boolean isNeeded(int road, int town) {
        return distanceWithout(road, town) != now.dist[town];
    }

    private int neededCount(int town) {
        int roadsOnWay = findWay(town);
        int found = 0;
        for (int i = 0; i < roadsOnWay; i++) {
            if (isNeeded(rows.wayRoads[i], town)) {
                found++;
            }
        }
        return found;
    }

    private int dearestRoad(int town) {
        int roadsOnWay = findWay(town);
        int dearest = NOT_THERE;
        long most = 0;
        for (int i = 0; i < roadsOnWay; i++) {
            int road = rows.wayRoads[i];
            long lost = distanceWithout(road, town);
            boolean isFirst = dearest == NOT_THERE;
            if (isFirst || isLess(most, lost) || lost == most && road < dearest) {
                dearest = road;
                most = lost;
            }
        }
        return dearest;
    }

    /** No length is more than any. */
    private static boolean isLess(long a, long b) {
        return a != NO_LENGTH && (b == NO_LENGTH || a < b);
    }

    private long distanceWithout(int road, int town) {
        now.roads.settle(now.origin, road, rows.spare);
        return rows.spare[town];
    }

    public int touched(int i) {
        if (i < 0) {
            return NONE;
        }
        return i < now.touchedCount ? now.touchedTowns[i] : NOT_SO_MANY;
    }

    public long without(int road, int town) {
        if (!now.roads.isOpen(road) || !now.roads.hasTown(town)) {
            return NO_LENGTH;
        }
        return distanceWithout(road, town);
    }

    // ---- other lengths

    public long between(int from, int to) {
        if (!now.roads.hasTown(from) || !now.roads.hasTown(to)) {
            return NO_LENGTH;
        }
        return rightPairs().span(from, to);
    }

    public long free(int town, int some) {
        if (!now.roads.hasTown(town) || some < 0 || some > MOST_FREE) {
            return NO_LENGTH;
        }
        return rows.withFreeRoads(now, rightPairs(), town, some);
    }

    public long hops(int town, int most) {
        if (!now.roads.hasTown(town) || most < 0 || most > MOST_ROADS) {
            return NO_LENGTH;
        }
        return rows.withFewRoads(now, town, most);
    }

    public long meet(int towns, int what) {
        if (towns == 0 || !now.roads.hasAll(towns) || what < 0 || what > 3) {
            return NO_LENGTH;
        }
        boolean byGreatest = what >= 2;
        int best = rightPairs().meetingOf(towns, byGreatest);
        if (best == NONE) {
            return NO_LENGTH;
        }
        return what % 2 == 0 ? best : pairs.comeTogether(towns, best, byGreatest);
    }

    public long through(int town, int by) {
        if (!now.roads.hasTown(town) || !now.roads.hasTown(by)) {
            return NO_LENGTH;
        }
        return joined(now.dist[by], rightPairs().span(by, town));
    }

    /** Two lengths one behind the other; none, if one is none. */
    private static long joined(long a, long b) {
        return a == NO_LENGTH || b == NO_LENGTH ? NO_LENGTH : a + b;
    }

    private long apartLength(int town) {
        if (!now.hasDistance(town)) {
            return NO_LENGTH;
        }
        return town == now.origin ? 0 : rows.twoApart(now, town);
    }

    public long shortcut(int length, int what) {
        if (!isLength(length) || what < 0 || what > 2) {
            return NO_LENGTH;
        }
        findShortcut(length);
        return shortcutFound[2] > 0 ? shortcutFound[what] : NOT_THERE;
    }

    private void findShortcut(int length) {
        Pairs all = rightPairs();
        shortcutFound[2] = 0;
        for (int from = 0; from < now.roads.towns; from++) {
            for (int to = 0; to < now.roads.towns; to++) {
                if (from == to || !now.hasDistance(from) || all.wouldMakeBadRing(from, to, length)) {
                    continue;
                }
                long saved = savedBy(from, to, length);
                if (saved > shortcutFound[2]) {
                    shortcutFound[0] = from;
                    shortcutFound[1] = to;
                    shortcutFound[2] = saved;
                }
            }
        }
    }

    private long savedBy(int from, int to, int length) {
        long saved = 0;
        for (int t = 0; t < now.roads.towns; t++) {
            long rest = pairs.span(to, t);
            if (rest != NO_LENGTH && now.hasDistance(t)) {
                saved += Math.max(0L, now.dist[t] - (now.dist[from] + length + rest));
            }
        }
        return saved;
    }

    public long mean(int what) {
        if (what < 0 || what > 1 || !rows.findLeastMean(now.roads)) {
            return NO_LENGTH;
        }
        return what == 0 ? rows.meanAbove : rows.meanBelow;
    }

    public long round(int towns, int what) {
        if (!now.roads.hasAll(towns) || what < 0 || what > MOST_ROUND) {
            return NO_LENGTH;
        }
        int others = towns & ~(1 << now.origin);
        if (Integer.bitCount(others) > MOST_ROUND) {
            return NO_LENGTH;
        }
        rightPairs();
        long best = roundSearch.findRound(now.origin, others, now.roads.towns);
        if (what == 0 || best == NO_LENGTH) {
            return best;
        }
        return what <= Integer.bitCount(others) ? roundSearch.bestOrder[what - 1] : NOT_SO_MANY;
    }

    // ---- watches and events

    public int watch(int town, int limit) {
        return watchTown(town, limit);
    }

    private int watchTown(int town, int limit) {
        if (!now.roads.hasTown(town) || !isLength(limit)) {
            return NONE;
        }
        now.watched |= 1 << town;
        now.limit[town] = limit;
        return now.isBeyond(town) ? 1 : 0;
    }

    public boolean forget(int town) {
        return forgetTown(town);
    }

    private boolean forgetTown(int town) {
        if (!now.roads.hasTown(town) || !now.isWatched(town)) {
            return false;
        }
        now.watched &= ~(1 << town);
        return true;
    }

    public long event(int i, int what) {
        if (i < 0 || i >= now.log.size || what < 0 || what >= EVENT_CELLS) {
            return NO_LENGTH;
        }
        return now.log.cells[i * EVENT_CELLS + what];
    }

    // ---- tried aside

    public int ifLength(int road, int length) {
        if (!now.roads.hasRoad(road) || !isLength(length)) {
            return NONE;
        }
        if (!now.roads.isOpen(road)) {
            return IS_CLOSED;
        }
        if (now.roads.far[road] == length) {
            return AS_IT_IS;
        }
        aside.copyFrom(now.roads);
        aside.far[road] = length;
        int refused = judgeAside(road, now.origin);
        return refused != 0 ? refused : now.countOthers(asideDist);
    }

    public long drawn(int n, int town) {
        if (n < 1 || n > MOST_DRAWS || !now.roads.hasTown(town) || now.roads.laid <= 0) {
            return NO_LENGTH;
        }
        aside.copyFrom(now.roads);
        int x = now.x;
        for (int i = 0; i < n; i++) {
            x = drawAfter(x);
            int road = x % now.roads.laid;
            x = drawAfter(x);
            drawChange(road, x);
        }
        aside.settle(now.origin, NONE, asideDist);
        return asideDist[town];
    }

    private static int drawAfter(int x) {
        return (25173 * x + 13849) % DRAW_SPAN;
    }

    private void drawChange(int road, int x) {
        long openBefore = aside.openBits;
        int farBefore = aside.far[road];
        if (x % 8 == 0) {
            aside.flip(road);
        } else {
            aside.far[road] = Math.max(-100, Math.min(10000, farBefore + x % 41 - 10));
        }
        if (judgeAside(road, now.origin) != 0) {
            aside.openBits = openBefore;
            aside.far[road] = farBefore;
        }
    }

    public boolean seed(int x) {
        if (x < 0 || x >= DRAW_SPAN) {
            return false;
        }
        now.x = x;
        return true;
    }

    // ---- kept, undone, checked

    public int keep() {
        kept.copyFrom(now);
        isKept = true;
        return now.turn;
    }

    public boolean undo() {
        if (!isKept) {
            return false;
        }
        now.copyFrom(kept);
        pairs.isRight = false;
        return true;
    }

    public int check(int n) {
        if (!tape.canGive(n, 0, MOST_TOWNS)) {
            return NOT_THERE;
        }
        int right = 0;
        while (right < n && isParentByte(right, tape.bytes[right])) {
            right++;
        }
        tape.size = 0;
        return right == n ? NONE : right;
    }

    private boolean isParentByte(int town, int told) {
        if (!now.roads.hasTown(town)) {
            return false;
        }
        return told == (now.parent[town] == NONE ? NO_PARENT_BYTE : now.parent[town]);
    }

    /** Towns and roads, and what can be told of them without an origin. */
    private static final class Roads {
        int towns = FIRST_TOWNS;
        int laid;
        long openBits;
        final int[] from = new int[MOST_ROADS];
        final int[] to = new int[MOST_ROADS];
        final int[] far = new int[MOST_ROADS];

        void beginWith(int howMany) {
            towns = howMany;
            laid = 0;
            openBits = 0;
        }

        void copyFrom(Roads other) {
            towns = other.towns;
            laid = other.laid;
            openBits = other.openBits;
            System.arraycopy(other.from, 0, from, 0, laid);
            System.arraycopy(other.to, 0, to, 0, laid);
            System.arraycopy(other.far, 0, far, 0, laid);
        }

        int addRoad(int a, int b, int length) {
            if (laid >= MOST_ROADS) {
                return NONE;
            }
            from[laid] = a;
            to[laid] = b;
            far[laid] = length;
            openBits |= 1L << laid;
            laid++;
            return laid - 1;
        }

        void flip(int road) {
            openBits ^= 1L << road;
        }

        boolean hasTown(int town) {
            return town >= 0 && town < towns;
        }

        boolean hasAll(int townBits) {
            return (townBits & -(1 << towns)) == 0;
        }

        boolean hasRoad(int road) {
            return road >= 0 && road < laid;
        }

        boolean isOpen(int road) {
            return road >= 0 && road < laid && (openBits >> road & 1L) != 0;
        }

        void beginRow(int start, long[] row) {
            Arrays.fill(row, NO_LENGTH);
            row[start] = 0;
        }

        /**
         * The lengths from a town to all, with one road left out (NONE: with all). As no ring
         * is below 0, every least way has fewer roads than there are towns.
         */
        void settle(int start, int leftOut, long[] row) {
            Arrays.fill(row, NO_LENGTH);
            row[start] = 0;
            boolean goesOn = true;
            for (int i = 0; i < towns && goesOn; i++) {
                goesOn = false;
                for (int r = 0; r < laid; r++) {
                    long before = row[from[r]];
                    if (before == NO_LENGTH || r == leftOut || (openBits >> r & 1L) == 0) {
                        continue;
                    }
                    long there = row[to[r]];
                    if (there == NO_LENGTH || before + far[r] < there) {
                        row[to[r]] = before + far[r];
                        goesOn = true;
                    }
                }
            }
        }

        /** One road more behind what is known: whether something found became less. */
        boolean stepAll(long[] known, long[] found) {
            boolean better = false;
            for (int r = 0; r < laid; r++) {
                if (isOpen(r)) {
                    better |= lower(found, to[r], joined(known[from[r]], far[r]));
                }
            }
            return better;
        }

        static boolean lower(long[] row, int town, long length) {
            if (!isLess(length, row[town])) {
                return false;
            }
            row[town] = length;
            return true;
        }

        /** All other rings must be right already: then only those by this road are asked. */
        boolean makesBadRing(int road, long[] row) {
            if (!isOpen(road)) {
                return false;
            }
            settle(to[road], road, row);
            long back = row[from[road]];
            return back != NO_LENGTH && back + far[road] <= 0;
        }

        boolean allInts(long[] row) {
            for (int t = 0; t < towns; t++) {
                if (row[t] != NO_LENGTH && (row[t] < LEAST_INT || row[t] > GREATEST_INT)) {
                    return false;
                }
            }
            return true;
        }
    }

    /** The events, four cells each: turn, town, whether beyond, distance. */
    private static final class Log {
        int size;
        final long[] cells = new long[MOST_EVENTS * EVENT_CELLS];

        void copyFrom(Log other) {
            size = other.size;
            System.arraycopy(other.cells, 0, cells, 0, size * EVENT_CELLS);
        }

        void write(int turn, int town, boolean beyond, long distance) {
            if (size >= MOST_EVENTS) {
                return;
            }
            int at = size * EVENT_CELLS;
            cells[at] = turn;
            cells[at + 1] = town;
            cells[at + 2] = beyond ? 1 : 0;
            cells[at + 3] = distance;
            size++;
        }
    }

    /** All that is kept and undone, with the distances and parents that follow from it. */
    private static final class State {
        final Roads roads = new Roads();
        final Log log = new Log();
        int origin;
        int turn;
        int x = FIRST_X;
        int watched;
        final int[] limit = new int[MOST_TOWNS];
        int touchedCount;
        final int[] touchedTowns = new int[MOST_TOWNS];
        final long[] dist = new long[MOST_TOWNS];
        final int[] parent = new int[MOST_TOWNS];

        State() {
            roads.settle(0, NONE, dist);
            findParents();
        }

        void copyFrom(State other) {
            roads.copyFrom(other.roads);
            log.copyFrom(other.log);
            origin = other.origin;
            turn = other.turn;
            x = other.x;
            watched = other.watched;
            touchedCount = other.touchedCount;
            System.arraycopy(other.limit, 0, limit, 0, MOST_TOWNS);
            System.arraycopy(other.touchedTowns, 0, touchedTowns, 0, MOST_TOWNS);
            System.arraycopy(other.dist, 0, dist, 0, MOST_TOWNS);
            System.arraycopy(other.parent, 0, parent, 0, MOST_TOWNS);
        }

        /** What a net makes anew; X is not among it: it is what was told as the seed. */
        void beginWith(Roads others, long[] othersDist) {
            roads.copyFrom(others);
            log.size = 0;
            origin = 0;
            turn = 0;
            watched = 0;
            touchedCount = 0;
            System.arraycopy(othersDist, 0, dist, 0, MOST_TOWNS);
            findParents();
        }

        void takeOver(Roads changed, int start, long[] changedDist) {
            int beyondBefore = beyondBits();
            markTouched(changedDist);
            roads.copyFrom(changed);
            origin = start;
            System.arraycopy(changedDist, 0, dist, 0, MOST_TOWNS);
            findParents();
            turn++;
            writeEvents(beyondBefore ^ beyondBits());
        }

        void markTouched(long[] later) {
            touchedCount = 0;
            for (int t = 0; t < roads.towns; t++) {
                if (dist[t] != later[t]) {
                    putTouched(t, later);
                }
            }
        }

        /** Towns come by numbers, so that one goes behind those that are as far. */
        void putTouched(int town, long[] later) {
            int at = touchedCount;
            while (at > 0 && isLess(later[town], later[touchedTowns[at - 1]])) {
                touchedTowns[at] = touchedTowns[at - 1];
                at--;
            }
            touchedTowns[at] = town;
            touchedCount++;
        }

        int countOthers(long[] later) {
            int others = 0;
            for (int t = 0; t < roads.towns; t++) {
                if (dist[t] != later[t]) {
                    others++;
                }
            }
            return others;
        }

        void writeEvents(int turnedBits) {
            for (int t = 0; t < roads.towns; t++) {
                if ((turnedBits >> t & 1) != 0) {
                    log.write(turn, t, isBeyond(t), dist[t]);
                }
            }
        }

        boolean isWatched(int town) {
            return (watched >> town & 1) != 0;
        }

        boolean isBeyond(int town) {
            return dist[town] == NO_LENGTH || dist[town] > limit[town];
        }

        int beyondBits() {
            int bits = 0;
            for (int t = 0; t < roads.towns; t++) {
                if (isWatched(t) && isBeyond(t)) {
                    bits |= 1 << t;
                }
            }
            return bits;
        }

        /** The lowest tight road wins, so the roads are gone from behind. */
        void findParents() {
            Arrays.fill(parent, NONE);
            for (int r = roads.laid - 1; r >= 0; r--) {
                if (isTight(r)) {
                    parent[roads.to[r]] = r;
                }
            }
        }

        boolean hasDistance(int town) {
            return dist[town] != NO_LENGTH;
        }

        boolean isTight(int road) {
            return roads.isOpen(road) && slackOf(road) == 0;
        }

        long slackOf(int road) {
            long before = dist[roads.from[road]];
            long there = dist[roads.to[road]];
            return before == NO_LENGTH || there == NO_LENGTH ? NO_LENGTH : before + roads.far[road] - there;
        }

        int tightTo(int town) {
            int tight = 0;
            for (int r = 0; r < roads.laid; r++) {
                if (roads.to[r] == town && isTight(r)) {
                    tight++;
                }
            }
            return tight;
        }

        int tightCount() {
            int tight = 0;
            for (int r = 0; r < roads.laid; r++) {
                if (isTight(r)) {
                    tight++;
                }
            }
            return tight;
        }

        int settledCount() {
            int settled = 0;
            for (int t = 0; t < roads.towns; t++) {
                if (hasDistance(t)) {
                    settled++;
                }
            }
            return settled;
        }

        int belowCount(int town) {
            int below = 0;
            for (int t = 0; t < roads.towns; t++) {
                if (t != town && comesBy(t, town)) {
                    below++;
                }
            }
            return below;
        }

        boolean comesBy(int town, int by) {
            int at = town;
            for (int i = 0; i < MOST_TOWNS && at != by && parent[at] != NONE; i++) {
                at = roads.from[parent[at]];
            }
            return at == by;
        }
    }

    /** The bytes that were fed. */
    private static final class Tape {
        int size;
        final int[] bytes = new int[MOST_BYTES];

        void addInt(int four) {
            for (int shift = 24; shift >= 0 && size < MOST_BYTES; shift -= 8) {
                bytes[size] = four >> shift & 255;
                size++;
            }
        }

        boolean canGive(int n, int least, int most) {
            return n >= least && n <= most && n <= size;
        }
    }

    /** Reads a net or orders into clauses, up to the first fault. */
    private static final class Reader {
        int towns;
        int clauses;
        final int[] word = new int[MOST_CLAUSES];
        private final int[] numbers = new int[MOST_CLAUSES * NUMBERS_A_CLAUSE];
        private int[] text = new int[0];
        private int end;
        private int at;
        private int fault;
        private boolean isNet;

        int number(int clause, int i) {
            return numbers[clause * NUMBERS_A_CLAUSE + i];
        }

        /** 0, or what is answered for the first fault. */
        int readText(int[] bytes, int n, boolean asNet, int townsAtFirst) {
            text = bytes;
            end = n;
            at = 0;
            fault = 0;
            isNet = asNet;
            towns = townsAtFirst;
            clauses = 0;
            boolean goesOn = true;
            for (int i = 0; i < MOST_CLAUSES && goesOn; i++) {
                goesOn = readClause(i);
            }
            if (goesOn) {
                tellFault(4, at);
            }
            return fault;
        }

        private void tellFault(int number, int place) {
            fault = -1000 * number - place;
        }

        /** Whether another clause must follow. */
        private boolean readClause(int clause) {
            readWord(clause);
            if (fault != 0) {
                return false;
            }
            String shape = shapeOf(word[clause]);
            for (int i = 0; i < shape.length() && fault == 0; i++) {
                readNumber(clause, i, shape.charAt(i));
            }
            if (fault != 0) {
                return false;
            }
            clauses = clause + 1;
            if (at >= end) {
                return false;
            }
            if (text[at] != ';') {
                tellFault(1, at);
                return false;
            }
            at++;
            return true;
        }

        private void readWord(int clause) {
            int begin = at;
            while (at < end && text[at] >= 'a' && text[at] <= 'z') {
                at++;
            }
            int found = isNet ? netWord(begin, clause) : orderWord(begin);
            if (found == NONE) {
                tellFault(1, begin);
            } else {
                word[clause] = found;
            }
        }

        private int netWord(int begin, int clause) {
            if (clause == 0 && isWord(begin, "towns")) {
                return WORD_TOWNS;
            }
            return isWord(begin, "road") ? WORD_ROAD : NONE;
        }

        private int orderWord(int begin) {
            for (int w = WORD_LAY; w <= WORD_FORGET; w++) {
                if (isWord(begin, orderText(w))) {
                    return w;
                }
            }
            return NONE;
        }

        private static String orderText(int order) {
            switch (order) {
                case WORD_LAY: return "lay";
                case WORD_LENGTH: return "length";
                case WORD_CLOSE: return "close";
                case WORD_OPEN: return "open";
                case WORD_ORIGIN: return "origin";
                case WORD_WATCH: return "watch";
                default: return "forget";
            }
        }

        /** Whether what stands from there up to here is this word. */
        private boolean isWord(int begin, String told) {
            if (at - begin != told.length()) {
                return false;
            }
            for (int i = 0; i < told.length(); i++) {
                if (text[begin + i] != told.charAt(i)) {
                    return false;
                }
            }
            return true;
        }

        /** The numbers of a clause: n how many towns, t a town, r a road, l a length or limit. */
        private static String shapeOf(int word) {
            switch (word) {
                case WORD_TOWNS: return "n";
                case WORD_ROAD: return "ttl";
                case WORD_LAY: return "ttl";
                case WORD_LENGTH: return "rl";
                case WORD_WATCH: return "tl";
                case WORD_CLOSE: return "r";
                case WORD_OPEN: return "r";
                default: return "t";
            }
        }

        private void readNumber(int clause, int i, char kind) {
            if (at >= end || text[at] != ' ') {
                tellFault(1, at);
                return;
            }
            at++;
            int first = at;
            long value = readValue();
            if (fault != 0) {
                return;
            }
            if (!isTold(kind, value)) {
                tellFault(3, first);
                return;
            }
            int slot = clause * NUMBERS_A_CLAUSE + i;
            numbers[slot] = (int) value;
            if (kind == 'n') {
                towns = (int) value;
            }
            if (kind == 't' && i == 1 && numbers[slot - 1] == numbers[slot]) {
                tellFault(6, first);
            }
        }

        private long readValue() {
            boolean isBelow = at < end && text[at] == '-';
            if (isBelow) {
                at++;
            }
            int first = at;
            long value = 0;
            while (at < end && text[at] >= '0' && text[at] <= '9') {
                if (at - first == 10) {
                    tellFault(2, at);
                    return 0;
                }
                value = value * 10 + (text[at] - '0');
                at++;
            }
            if (at == first) {
                tellFault(1, at);
            }
            return isBelow ? -value : value;
        }

        private boolean isTold(char kind, long value) {
            switch (kind) {
                case 'n': return value >= FIRST_TOWNS && value <= MOST_TOWNS;
                case 't': return value >= 0 && value < towns;
                case 'r': return value >= 0 && value < MOST_ROADS;
                default: return value >= -LONGEST && value <= LONGEST;
            }
        }
    }

    /** The least lengths between all towns, filled when they are asked for behind a change. */
    private static final class Pairs {
        boolean isRight;
        private int towns;
        private final long[] cells = new long[MOST_TOWNS * MOST_TOWNS];
        private final long[] row = new long[MOST_TOWNS];

        void fillFrom(Roads roads) {
            towns = roads.towns;
            for (int t = 0; t < towns; t++) {
                roads.settle(t, NONE, row);
                System.arraycopy(row, 0, cells, t * MOST_TOWNS, MOST_TOWNS);
            }
            isRight = true;
        }

        long span(int from, int to) {
            return cells[from * MOST_TOWNS + to];
        }

        boolean comesTo(int from, int to) {
            return span(from, to) != NO_LENGTH;
        }

        long reachOf(int town) {
            long reach = NO_LENGTH;
            for (int t = 0; t < towns; t++) {
                if (t != town && comesTo(town, t) && (reach == NO_LENGTH || span(town, t) > reach)) {
                    reach = span(town, t);
                }
            }
            return reach;
        }

        int middleTown() {
            int middle = NOT_THERE;
            long least = NO_LENGTH;
            for (int t = 0; t < towns; t++) {
                if (comesToAll(t) && isLess(reachOf(t), least)) {
                    middle = t;
                    least = reachOf(t);
                }
            }
            return middle;
        }

        private boolean comesToAll(int town) {
            for (int t = 0; t < towns; t++) {
                if (!comesTo(town, t)) {
                    return false;
                }
            }
            return true;
        }

        int groupOf(int town) {
            for (int t = 0; t < town; t++) {
                if (comesTo(t, town) && comesTo(town, t)) {
                    return t;
                }
            }
            return town;
        }

        int comersTo(int town) {
            int comers = 0;
            for (int t = 0; t < towns; t++) {
                if (t != town && comesTo(t, town)) {
                    comers++;
                }
            }
            return comers;
        }

        long ringOf(Roads roads, int town) {
            long least = NO_LENGTH;
            for (int r = 0; r < roads.laid; r++) {
                if (roads.isOpen(r) && roads.from[r] == town) {
                    long ring = joined(roads.far[r], span(roads.to[r], town));
                    least = isLess(ring, least) ? ring : least;
                }
            }
            return least;
        }

        boolean wouldMakeBadRing(int from, int to, int length) {
            return comesTo(to, from) && span(to, from) + length <= 0;
        }

        int meetingOf(int townBits, boolean byGreatest) {
            int best = NONE;
            long least = NO_LENGTH;
            for (int t = 0; t < towns; t++) {
                long there = comeTogether(townBits, t, byGreatest);
                if (isLess(there, least)) {
                    best = t;
                    least = there;
                }
            }
            return best;
        }

        /** The sum, or the greatest, of the lengths from these towns to one; none, if one is none. */
        long comeTogether(int townBits, int at, boolean byGreatest) {
            long all = byGreatest ? NO_LENGTH : 0;
            for (int t = 0; t < towns; t++) {
                if ((townBits >> t & 1) == 0) {
                    continue;
                }
                if (!comesTo(t, at)) {
                    return NO_LENGTH;
                }
                all = byGreatest ? Math.max(all, span(t, at)) : all + span(t, at);
            }
            return all;
        }
    }

    /** What is reckoned row by row from the origin, with rows that are used again. */
    private static final class Rows {
        final long[] spare = new long[MOST_TOWNS];
        final int[] wayRoads = new int[MOST_TOWNS];
        long meanAbove;
        long meanBelow;
        private final long[] known = new long[MOST_TOWNS];
        private final long[] found = new long[MOST_TOWNS];

        /** How many roads the way to a town has, which then stand in wayRoads. */
        int findWay(State now, int town) {
            int many = 0;
            for (int at = town; many < MOST_TOWNS && now.parent[at] != NONE; many++) {
                wayRoads[many] = now.parent[at];
                at = now.roads.from[now.parent[at]];
            }
            for (int i = 0; i < many / 2; i++) {
                int other = wayRoads[many - 1 - i];
                wayRoads[many - 1 - i] = wayRoads[i];
                wayRoads[i] = other;
            }
            return many;
        }

        private void foundIsKnown() {
            System.arraycopy(found, 0, known, 0, MOST_TOWNS);
        }

        /** Rows of tight roads are told apart by how many roads they have: tight rings are none. */
        long waysAsShort(State now, int town) {
            Arrays.fill(known, 0);
            known[now.origin] = 1;
            long ways = known[town];
            for (int i = 1; i < now.roads.towns; i++) {
                Arrays.fill(found, 0);
                for (int r = 0; r < now.roads.laid; r++) {
                    if (now.isTight(r)) {
                        int to = now.roads.to[r];
                        found[to] = Math.min(LONGEST, found[to] + known[now.roads.from[r]]);
                    }
                }
                foundIsKnown();
                ways = Math.min(LONGEST, ways + known[town]);
            }
            return ways;
        }

        long withFewRoads(State now, int town, int most) {
            now.roads.beginRow(now.origin, known);
            boolean goesOn = true;
            for (int i = 0; i < most && goesOn; i++) {
                System.arraycopy(known, 0, found, 0, MOST_TOWNS);
                goesOn = now.roads.stepAll(known, found);
                foundIsKnown();
            }
            return known[town];
        }

        /** Behind each road that is free a way goes on as it is least without one. */
        long withFreeRoads(State now, Pairs pairs, int town, int some) {
            Roads roads = now.roads;
            System.arraycopy(now.dist, 0, known, 0, MOST_TOWNS);
            for (int i = 0; i < some; i++) {
                System.arraycopy(known, 0, found, 0, MOST_TOWNS);
                for (int r = 0; r < roads.laid; r++) {
                    if (roads.isOpen(r) && roads.far[r] > 0) {
                        goOn(pairs, roads.to[r], known[roads.from[r]], roads.towns);
                    }
                }
                foundIsKnown();
            }
            return known[town];
        }

        private void goOn(Pairs pairs, int from, long gone, int towns) {
            for (int t = 0; t < towns; t++) {
                Roads.lower(found, t, joined(gone, pairs.span(from, t)));
            }
        }

        long narrowest(State now, int town) {
            Roads roads = now.roads;
            roads.beginRow(now.origin, known);
            known[now.origin] = -LONGEST;
            boolean goesOn = true;
            for (int i = 0; i < roads.towns && goesOn; i++) {
                goesOn = false;
                for (int r = 0; r < roads.laid; r++) {
                    long before = known[roads.from[r]];
                    if (roads.isOpen(r) && before != NO_LENGTH) {
                        goesOn |= Roads.lower(known, roads.to[r], Math.max(before, roads.far[r]));
                    }
                }
            }
            return town == now.origin ? NO_LENGTH : known[town];
        }

        /** A second way may go back along roads of the first: then both leave those out. */
        long twoApart(State now, int town) {
            Roads roads = now.roads;
            long wayBits = 0;
            int many = findWay(now, town);
            for (int i = 0; i < many; i++) {
                wayBits |= 1L << wayRoads[i];
            }
            roads.beginRow(now.origin, known);
            boolean goesOn = true;
            for (int i = 0; i < roads.towns && goesOn; i++) {
                goesOn = stepApart(roads, wayBits);
            }
            return joined(now.dist[town], known[town]);
        }

        private boolean stepApart(Roads roads, long wayBits) {
            boolean better = false;
            for (int r = 0; r < roads.laid; r++) {
                if (!roads.isOpen(r)) {
                    continue;
                }
                if ((wayBits >> r & 1L) != 0) {
                    better |= Roads.lower(known, roads.from[r], joined(known[roads.to[r]], -roads.far[r]));
                } else {
                    better |= Roads.lower(known, roads.to[r], joined(known[roads.from[r]], roads.far[r]));
                }
            }
            return better;
        }

        /** A way back to where it began is of rings, none of which is less on average than the least. */
        boolean findLeastMean(Roads roads) {
            meanBelow = 0;
            for (int t = 0; t < roads.towns; t++) {
                roads.beginRow(t, known);
                for (int many = 1; many <= roads.towns; many++) {
                    Arrays.fill(found, NO_LENGTH);
                    roads.stepAll(known, found);
                    foundIsKnown();
                    takeMean(known[t], many);
                }
            }
            if (meanBelow == 0) {
                return false;
            }
            long common = commonDivisor(meanAbove, meanBelow);
            meanAbove /= common;
            meanBelow /= common;
            return true;
        }

        private void takeMean(long all, int many) {
            if (all != NO_LENGTH && (meanBelow == 0 || all * meanBelow < meanAbove * many)) {
                meanAbove = all;
                meanBelow = many;
            }
        }

        private static long commonDivisor(long a, long b) {
            long greater = Math.abs(a);
            long less = Math.abs(b);
            for (int i = 0; i < 200 && less != 0; i++) {
                long rest = greater % less;
                greater = less;
                less = rest;
            }
            return Math.max(1, greater);
        }
    }

    /**
     * Seeks the least way by no town twice that is longer than the distance. It goes on along
     * shortest ways alone: a way that leaves them is at its least as soon as it has left.
     */
    private static final class NextSearch {
        private final State now;
        private final long[] rest = new long[MOST_TOWNS];
        private int goal;
        private long best;
        private long usefulBits;

        NextSearch(State now) {
            this.now = now;
        }

        /** The town must have a distance. */
        long findNext(int town) {
            goal = town;
            best = NO_LENGTH;
            findUseful();
            dive(now.origin, 1 << now.origin, 0);
            return best;
        }

        /** Of roads that are alike one is enough, and keeps the search short. */
        private void findUseful() {
            usefulBits = 0;
            for (int r = 0; r < now.roads.laid; r++) {
                if (now.roads.isOpen(r) && !hasTwinBefore(r)) {
                    usefulBits |= 1L << r;
                }
            }
        }

        private boolean hasTwinBefore(int road) {
            Roads roads = now.roads;
            for (int r = 0; r < road; r++) {
                boolean isBeside = roads.from[r] == roads.from[road] && roads.to[r] == roads.to[road];
                if (isBeside && roads.far[r] == roads.far[road] && roads.isOpen(r)) {
                    return true;
                }
            }
            return false;
        }

        private boolean isUseful(int road) {
            return (usefulBits >> road & 1L) != 0;
        }

        /** The town was come to by a shortest way, along the towns that are seen. */
        private void dive(int town, int seenBits, int depth) {
            if (town == goal || depth >= MOST_TOWNS) {
                return;
            }
            settleRest(seenBits);
            Roads roads = now.roads;
            long asShortBits = 0;
            for (int r = 0; r < roads.laid; r++) {
                if (roads.from[r] != town || !isUseful(r)) {
                    continue;
                }
                long all = joined(now.dist[town] + roads.far[r], rest[roads.to[r]]);
                if (all == now.dist[goal]) {
                    asShortBits |= 1L << r;
                } else if (isLess(all, best)) {
                    best = all;
                }
            }
            for (int r = 0; r < roads.laid; r++) {
                if ((asShortBits >> r & 1L) != 0) {
                    dive(roads.to[r], seenBits | 1 << roads.to[r], depth + 1);
                }
            }
        }

        /** The least lengths to the goal by towns that are not seen yet. */
        private void settleRest(int seenBits) {
            Roads roads = now.roads;
            roads.beginRow(goal, rest);
            boolean goesOn = true;
            for (int i = 0; i < roads.towns && goesOn; i++) {
                goesOn = false;
                for (int r = 0; r < roads.laid; r++) {
                    int from = roads.from[r];
                    if ((seenBits >> from & 1) == 0 && isUseful(r)) {
                        goesOn |= Roads.lower(rest, from, joined(rest[roads.to[r]], roads.far[r]));
                    }
                }
            }
        }
    }

    /** Seeks the least round through some towns; orders are tried by numbers, so the first is kept. */
    private static final class RoundSearch {
        final int[] bestOrder = new int[MOST_ROUND];
        private final int[] order = new int[MOST_ROUND];
        private final Pairs pairs;
        private int origin;
        private int towns;
        private long best;

        RoundSearch(Pairs pairs) {
            this.pairs = pairs;
        }

        /** The pairs must be right. */
        long findRound(int start, int townBits, int howMany) {
            origin = start;
            towns = howMany;
            best = NO_LENGTH;
            dive(start, townBits, 0, 0);
            return best;
        }

        private void dive(int town, int leftBits, long gone, int depth) {
            long back = joined(gone, pairs.span(town, origin));
            if (!isLess(back, best)) {
                return;
            }
            if (leftBits == 0) {
                best = back;
                System.arraycopy(order, 0, bestOrder, 0, MOST_ROUND);
                return;
            }
            if (depth >= MOST_ROUND) {
                return;
            }
            for (int t = 0; t < towns; t++) {
                if ((leftBits >> t & 1) != 0 && pairs.comesTo(town, t)) {
                    order[depth] = t;
                    dive(t, leftBits & ~(1 << t), gone + pairs.span(town, t), depth + 1);
                }
            }
        }
    }
}
