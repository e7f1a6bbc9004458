import java.util.Arrays;

/** Bounds between pairs of things, kept so that all can hold. ../shared/DOC.md says what each call promises. */
public final class GapBounds {
    public static final int BAD = -1, STATE = -2, FULL = -3, NONE = -4, OVER = -5;
    public static final long NOTHING = 1000000000000L;

    private static final int THINGS = 10;
    private static final int MOST_BOUNDS = 24;
    private static final int MOST_LEVELS = 8;
    private static final int MOST_BYTES = 320;
    private static final int MOST_CELLS = 40;
    private static final int MOST_READ = 10;
    private static final int MOST_GROWN = 20;
    private static final int IMAGES = 2;
    private static final int SHEETS = 4;
    private static final int LANES = 3;
    private static final int CELLS_OF_BOUND = 4;
    private static final int WAYS_THINGS = 5;
    private static final int WAYS_SPAN = 6;

    private static final int NO_TOKEN_FAULT = 1, PLACE_FAULT = 2, TWICE_FAULT = 4, ROOM_FAULT = 5, HOLD_FAULT = 6;
    private static final int NULL_FAULT = 1, INDEX_FAULT = 2, CAST_FAULT = 3, SIZE_FAULT = 4;
    private static final int FAULT_BASE = -10, REFUSED_BASE = -20;

    /**
     * A WEIGHT is one long: C times STEP less its EDGES. No sum that is made here is of as many as STEP BOUNDS,
     * so the sums, the order of pairs and "below nothing" are those of the longs, and none comes near NO_ROW.
     */
    private static final long STEP = 1024L;
    private static final long NO_ROW = 1L << 62;
    private static final int SKIP_NONE = -1;

    private final Tape tape;
    private final Store now;
    private final Store[] images;
    private final boolean[] imageMade;
    private final Sheet[] sheets;
    private final Rows rows;
    private final Clash clash;
    private final Span span;
    private final Reader reader;
    private int latestTorn;

    public GapBounds() {
        now = new Store();
        images = new Store[IMAGES];
        imageMade = new boolean[IMAGES];
        for (int k = 0; k < IMAGES; k++) {
            images[k] = new Store();
        }
        sheets = new Sheet[SHEETS];
        for (int k = 0; k < SHEETS; k++) {
            sheets[k] = new Sheet();
        }
        rows = new Rows();
        clash = new Clash();
        span = new Span();
        reader = new Reader();
        tape = reader.tape;
        latestTorn = 0;
    }

    // ---- the text

    public int feed(int c) {
        if (c < 0 || c > 127) {
            return BAD;
        }
        if (tape.size >= MOST_BYTES) {
            return FULL;
        }
        tape.bytes[tape.size] = (byte) c;
        tape.size++;
        return tape.size;
    }

    public int end(int n) {
        if (n < 0 || n > tape.size) {
            return BAD;
        }
        int had = tape.size;
        tape.size = n;
        return had;
    }

    public int text() {
        reader.readAll();
        if (reader.wrong == 0 && !rows.canHold(reader.draft, reader.draft.wholeness)) {
            reader.fail(HOLD_FAULT, tape.size);
        }
        tape.size = 0;
        if (reader.wrong != 0) {
            return FAULT_BASE - reader.wrongAt;
        }
        now.takeFrom(reader.draft);
        clash.size = 0;
        for (int k = 0; k < IMAGES; k++) {
            imageMade[k] = false;
        }
        return reader.lines;
    }

    public int fault() {
        return reader.wrong;
    }

    public int rule(int what) {
        switch (what) {
            case 0:
                return now.size;
            case 1:
                return now.wholeness;
            case 2:
                return now.marked;
            case 3:
                return now.pairs();
            case 4:
                return now.differentLimits();
            case 5:
                return needlessBounds();
            case 6:
                return rows.groups(now);
            case 7:
                return clash.size;
            default:
                return BAD;
        }
    }

    public int bound(int k, int what) {
        if (!now.has(k)) {
            return BAD;
        }
        switch (what) {
            case 0:
                return now.upper[k];
            case 1:
                return now.lower[k];
            case 2:
                return now.stricts[k];
            case 3:
                return isNeedless(k) ? 1 : 0;
            case 4:
                return now.ofPair(now.upper[k], now.lower[k]);
            default:
                return BAD;
        }
    }

    public long limit(int k) {
        return now.has(k) ? now.limits[k] : NOTHING;
    }

    public int tightest(int x, int y) {
        if (!arePair(x, y)) {
            return BAD;
        }
        int best = NONE;
        long least = NO_ROW;
        for (int k = 0; k < now.size; k++) {
            if (now.isOf(k, x, y) && now.weightOf(k) < least) {
                least = now.weightOf(k);
                best = k;
            }
        }
        return best;
    }

    public int pair(int i) {
        if (i < 0) {
            return BAD;
        }
        int met = 0;
        for (int k = 0; k < now.size; k++) {
            if (now.isFirstOfPair(k)) {
                if (met == i) {
                    return 10 * now.upper[k] + now.lower[k];
                }
                met++;
            }
        }
        return NONE;
    }

    // ---- bounds

    public int add(int x, int y, int c, int strict) {
        return join(x, y, c, strict);
    }

    public int may(int x, int y, int c, int strict) {
        if (!arePair(x, y) || !isBit(strict)) {
            return BAD;
        }
        return fits(x, y, weigh(c, strict, now.wholeness), SKIP_NONE) ? 1 : 0;
    }

    public int conflict(int i) {
        if (i < 0) {
            return BAD;
        }
        return i < clash.size ? clash.row[i] : NONE;
    }

    public int drop(int k) {
        if (!now.has(k)) {
            return BAD;
        }
        now.remove(k);
        return now.size;
    }

    public int change(int k, int c) {
        if (!now.has(k)) {
            return BAD;
        }
        int x = now.upper[k];
        int y = now.lower[k];
        long weight = weigh(c, now.stricts[k], now.wholeness);
        if (!fits(x, y, weight, k)) {
            clash.find(now, x, y, weight, k);
            return STATE;
        }
        now.limits[k] = c;
        return 1;
    }

    public int shift(int v, int t) {
        if (!isThing(v)) {
            return BAD;
        }
        for (int k = 0; k < now.size; k++) {
            if (!is32Bits(now.shiftedLimit(k, v, t))) {
                return OVER;
            }
        }
        int shifted = 0;
        for (int k = 0; k < now.size; k++) {
            if (now.upper[k] == v || now.lower[k] == v) {
                now.limits[k] = (int) now.shiftedLimit(k, v, t);
                shifted++;
            }
        }
        return shifted;
    }

    public int whole(int v) {
        if (!isBit(v)) {
            return BAD;
        }
        if (!rows.canHold(now, v)) {
            return STATE;
        }
        int was = now.wholeness;
        now.wholeness = v;
        return was;
    }

    // ---- levels

    public int push() {
        if (now.marked >= MOST_LEVELS) {
            return FULL;
        }
        now.marks[now.marked] = now.size;
        now.marked++;
        return now.marked;
    }

    public int pop(int n) {
        if (!now.hasMark(n)) {
            return BAD;
        }
        int had = now.size;
        now.size = now.marks[n];
        now.marked = n;
        return had - now.size;
    }

    public int level(int n) {
        return now.hasMark(n) ? now.marks[n] : BAD;
    }

    // ---- what is implied

    public long implied(int x, int y, int what) {
        if (!isThing(x) || !isThing(y) || !isBit(what)) {
            return BAD;
        }
        long weight = rows.between(now, y, x, SKIP_NONE);
        if (weight == NO_ROW) {
            return NOTHING;
        }
        return what == 0 ? amountOf(weight) : edgesOf(weight);
    }

    public int fixed(int x, int y) {
        if (!isThing(x) || !isThing(y)) {
            return BAD;
        }
        long there = rows.between(now, x, y, SKIP_NONE);
        long here = rows.between(now, y, x, SKIP_NONE);
        return sumToNothing(there, here) ? 1 : 0;
    }

    public long high(int v, int what) {
        if (!isThing(v) || !isBit(what)) {
            return BAD;
        }
        long weight = rows.highOf(now, v);
        return what == 0 ? amountOf(weight) : edgesOf(weight);
    }

    public long reach(int v, int o, int t, int what) {
        if (!isThing(v) || !isThing(o) || what < 0 || what > 3) {
            return BAD;
        }
        boolean upwards = what == 0 || what == 2;
        long weight = upwards ? rows.between(now, o, v, SKIP_NONE) : rows.between(now, v, o, SKIP_NONE);
        if (weight == NO_ROW) {
            return NOTHING;
        }
        if (what >= 2) {
            return edgesOf(weight);
        }
        return upwards ? t + amountOf(weight) : t - amountOf(weight);
    }

    public long room(int x, int y, int what) {
        if (!arePair(x, y) || !isBit(what)) {
            return BAD;
        }
        long against = rows.between(now, x, y, SKIP_NONE);
        if (against == NO_ROW) {
            return NOTHING;
        }
        if (what == 0) {
            return -amountOf(against);
        }
        return edgesOf(against) > 0 ? 1 : 0;
    }

    public int ways(int n, int m) {
        if (n < 1 || n > WAYS_THINGS || m < 0 || m > WAYS_SPAN) {
            return BAD;
        }
        span.prepare(now, n, m);
        return Span.waysFrom(span, 0);
    }

    // ---- by a seed

    public int grow(int seed, int n) {
        if (n < 1 || n > MOST_GROWN) {
            return BAD;
        }
        int came = 0;
        int state = seed;
        for (int i = 0; i < n; i++) {
            state = nextSeed(state);
            int first = seedBits(state);
            state = nextSeed(state);
            int second = seedBits(state);
            int x = first % 10;
            int y = first / 16 % 10;
            int strict = first / 256 % 4 == 0 ? 1 : 0;
            int c = second % 41 - 12;
            if (x != y && now.size < MOST_BOUNDS && fits(x, y, weigh(c, strict, now.wholeness), SKIP_NONE)) {
                now.append(x, y, c, strict);
                came++;
            }
        }
        return came;
    }

    // ---- images, sheets

    public int keep(int k) {
        if (k < 0 || k >= IMAGES) {
            return BAD;
        }
        int had = imageMade[k] ? 1 : 0;
        images[k].takeFrom(now);
        imageMade[k] = true;
        return had;
    }

    public int back(int k) {
        if (k < 0 || k >= IMAGES) {
            return BAD;
        }
        if (!imageMade[k]) {
            return STATE;
        }
        now.takeFrom(images[k]);
        return now.size;
    }

    public int sheet(int k, int lane, int n) {
        if (k < 0 || k >= SHEETS || lane < 0 || lane >= LANES || n > MOST_CELLS) {
            return BAD;
        }
        if (n < 0) {
            return FAULT_BASE - SIZE_FAULT;
        }
        sheets[k].renew(lane, n);
        return 1;
    }

    public int lay(int k, int i, int v) {
        if (k < 0 || k >= SHEETS) {
            return BAD;
        }
        Sheet to = sheets[k];
        int found = to.faultAt(to.laneOf, i, 1);
        if (found != 0) {
            return FAULT_BASE - found;
        }
        to.put(i, v);
        return 1;
    }

    public int read(int k, int lane, int f, int n) {
        if (k < 0 || k >= SHEETS || lane < 0 || lane >= LANES || n < 0 || n > MOST_READ) {
            return BAD;
        }
        Sheet of = sheets[k];
        int before = now.size;
        int found = 0;
        for (int i = 0; i < n && found == 0; i++) {
            long first = (long) f + CELLS_OF_BOUND * i;
            found = of.faultAt(lane, first, CELLS_OF_BOUND);
            if (found == 0
                    && join(of.cellAt(first), of.cellAt(first + 1), of.cellAt(first + 2), of.cellAt(first + 3)) < 0) {
                now.size = before;
                return REFUSED_BASE - i;
            }
        }
        latestTorn = found;
        return now.size - before;
    }

    public int torn() {
        return latestTorn;
    }

    public int count(int what) {
        switch (what) {
            case 0:
                return imagesMade();
            case 1:
                return tape.size;
            case 2:
                return sheets[0].laneOf == Sheet.NO_LANE ? NONE : sheets[0].size;
            case 3:
                return now.strictBounds();
            default:
                return BAD;
        }
    }

    // ---- what the calls share

    private static boolean isThing(int v) {
        return v >= 0 && v < THINGS;
    }

    private static boolean arePair(int x, int y) {
        return isThing(x) && isThing(y) && x != y;
    }

    private static boolean isBit(int v) {
        return v == 0 || v == 1;
    }

    private static boolean is32Bits(long v) {
        return v == (int) v;
    }

    private static long weigh(int c, int strict, int wholeness) {
        if (wholeness == 1) {
            return ((long) c - strict) * STEP;
        }
        return c * STEP - strict;
    }

    private static long amountOf(long weight) {
        return -Math.floorDiv(-weight, STEP);
    }

    private static long edgesOf(long weight) {
        return amountOf(weight) * STEP - weight;
    }

    private static boolean sumToNothing(long there, long here) {
        return there != NO_ROW && here != NO_ROW && there + here == 0;
    }

    private static int nextSeed(int seed) {
        return seed * 1103515245 + 12345;
    }

    private static int seedBits(int seed) {
        return (seed >>> 16) & 32767;
    }

    /** Whether a BOUND of x, y closes no CIRCLE below nothing with the others, BOUND skip left out. */
    private boolean fits(int x, int y, long weight, int skip) {
        long against = rows.between(now, x, y, skip);
        return against == NO_ROW || against + weight >= 0;
    }

    private int join(int x, int y, int c, int strict) {
        if (!arePair(x, y) || !isBit(strict)) {
            return BAD;
        }
        if (now.size >= MOST_BOUNDS) {
            return FULL;
        }
        long weight = weigh(c, strict, now.wholeness);
        if (!fits(x, y, weight, SKIP_NONE)) {
            clash.find(now, x, y, weight, SKIP_NONE);
            return STATE;
        }
        now.append(x, y, c, strict);
        return now.size;
    }

    private boolean isNeedless(int k) {
        return rows.between(now, now.lower[k], now.upper[k], k) <= now.weightOf(k);
    }

    private int needlessBounds() {
        int found = 0;
        for (int k = 0; k < now.size; k++) {
            if (isNeedless(k)) {
                found++;
            }
        }
        return found;
    }

    private int imagesMade() {
        int found = 0;
        for (int k = 0; k < IMAGES; k++) {
            if (imageMade[k]) {
                found++;
            }
        }
        return found;
    }

    /** THE TAPE: its bytes up to size. */
    private static final class Tape {
        final byte[] bytes = new byte[MOST_BYTES];
        int size;
    }

    /** What an IMAGE keeps: BOUNDS, WHOLE and LEVELS. BOUND k leads from lower[k] to upper[k]. */
    private static final class Store {
        final int[] upper = new int[MOST_BOUNDS];
        final int[] lower = new int[MOST_BOUNDS];
        final int[] limits = new int[MOST_BOUNDS];
        final int[] stricts = new int[MOST_BOUNDS];
        final int[] marks = new int[MOST_LEVELS];
        int size;
        int marked;
        int wholeness = 1;

        void empty() {
            size = 0;
            marked = 0;
            wholeness = 1;
        }

        void takeFrom(Store other) {
            System.arraycopy(other.upper, 0, upper, 0, MOST_BOUNDS);
            System.arraycopy(other.lower, 0, lower, 0, MOST_BOUNDS);
            System.arraycopy(other.limits, 0, limits, 0, MOST_BOUNDS);
            System.arraycopy(other.stricts, 0, stricts, 0, MOST_BOUNDS);
            System.arraycopy(other.marks, 0, marks, 0, MOST_LEVELS);
            size = other.size;
            marked = other.marked;
            wholeness = other.wholeness;
        }

        boolean has(int k) {
            return k >= 0 && k < size;
        }

        boolean hasMark(int n) {
            return n >= 0 && n < marked;
        }

        boolean isOf(int k, int x, int y) {
            return upper[k] == x && lower[k] == y;
        }

        long weightOf(int k) {
            return weigh(limits[k], stricts[k], wholeness);
        }

        void append(int x, int y, int c, int strict) {
            if (size < MOST_BOUNDS) {
                upper[size] = x;
                lower[size] = y;
                limits[size] = c;
                stricts[size] = strict;
                size++;
            }
        }

        void remove(int k) {
            for (int i = k + 1; i < size; i++) {
                upper[i - 1] = upper[i];
                lower[i - 1] = lower[i];
                limits[i - 1] = limits[i];
                stricts[i - 1] = stricts[i];
            }
            size--;
            for (int n = 0; n < marked; n++) {
                if (marks[n] > k) {
                    marks[n]--;
                }
            }
        }

        long shiftedLimit(int k, int v, int t) {
            if (upper[k] == v) {
                return (long) limits[k] + t;
            }
            return lower[k] == v ? (long) limits[k] - t : limits[k];
        }

        boolean isFirstOfPair(int k) {
            for (int j = 0; j < k; j++) {
                if (isOf(j, upper[k], lower[k])) {
                    return false;
                }
            }
            return true;
        }

        boolean isFirstOfLimit(int k) {
            for (int j = 0; j < k; j++) {
                if (limits[j] == limits[k]) {
                    return false;
                }
            }
            return true;
        }

        int pairs() {
            int found = 0;
            for (int k = 0; k < size; k++) {
                if (isFirstOfPair(k)) {
                    found++;
                }
            }
            return found;
        }

        int differentLimits() {
            int found = 0;
            for (int k = 0; k < size; k++) {
                if (isFirstOfLimit(k)) {
                    found++;
                }
            }
            return found;
        }

        int ofPair(int x, int y) {
            int found = 0;
            for (int k = 0; k < size; k++) {
                if (isOf(k, x, y)) {
                    found++;
                }
            }
            return found;
        }

        int strictBounds() {
            int found = 0;
            for (int k = 0; k < size; k++) {
                found += stricts[k];
            }
            return found;
        }
    }

    /** The least WEIGHTS of ROWS, found by going over all BOUNDS until no WEIGHT becomes less. */
    private static final class Rows {
        private final long[] least = new long[THINGS];
        private final long[][] table = new long[THINGS][THINGS];

        /** The least WEIGHT of ROWS that lead from one THING to another without BOUND skip, or NO_ROW. */
        long between(Store store, int from, int to, int skip) {
            Arrays.fill(least, NO_ROW);
            least[from] = 0;
            boolean moved = true;
            for (int round = 0; round < THINGS && moved; round++) {
                moved = goOver(store, store.wholeness, skip);
            }
            return least[to];
        }

        long highOf(Store store, int v) {
            canHold(store, store.wholeness);
            return least[v];
        }

        /** With nothing at every THING at first it comes to rest just when no CIRCLE is below nothing. */
        boolean canHold(Store store, int wholeness) {
            Arrays.fill(least, 0L);
            boolean moved = true;
            for (int round = 0; round < THINGS && moved; round++) {
                moved = goOver(store, wholeness, SKIP_NONE);
            }
            return !moved;
        }

        int groups(Store store) {
            for (int v = 0; v < THINGS; v++) {
                between(store, v, v, SKIP_NONE);
                System.arraycopy(least, 0, table[v], 0, THINGS);
            }
            int found = 0;
            for (int v = 0; v < THINGS; v++) {
                if (isFirstOfGroup(v)) {
                    found++;
                }
            }
            return found;
        }

        private boolean isFirstOfGroup(int v) {
            for (int u = 0; u < v; u++) {
                if (sumToNothing(table[u][v], table[v][u])) {
                    return false;
                }
            }
            return true;
        }

        private boolean goOver(Store store, int wholeness, int skip) {
            boolean moved = false;
            for (int k = 0; k < store.size; k++) {
                long begin = least[store.lower[k]];
                if (k != skip && begin != NO_ROW) {
                    long sum = begin + weigh(store.limits[k], store.stricts[k], wholeness);
                    if (sum < least[store.upper[k]]) {
                        least[store.upper[k]] = sum;
                        moved = true;
                    }
                }
            }
            return moved;
        }
    }

    /** CONFLICT. A ROW of fewest BOUNDS meets no THING twice, as no CIRCLE is below nothing: so it is short. */
    private static final class Clash {
        final int[] row = new int[THINGS];
        int size;
        /** Of each number of BOUNDS and each THING: the least WEIGHT of ROWS of so many from it to the goal. */
        private final long[][] least = new long[THINGS][THINGS];

        void find(Store store, int x, int y, long weight, int skip) {
            size = 0;
            Arrays.fill(least[0], NO_ROW);
            least[0][y] = 0;
            for (int length = 1; length < THINGS; length++) {
                lengthen(store, length, skip);
                if (least[length][x] != NO_ROW && least[length][x] + weight < 0) {
                    trace(store, x, weight, length, skip);
                    return;
                }
            }
        }

        private void lengthen(Store store, int length, int skip) {
            long[] shorter = least[length - 1];
            long[] longer = least[length];
            Arrays.fill(longer, NO_ROW);
            for (int k = 0; k < store.size; k++) {
                long rest = shorter[store.upper[k]];
                if (k != skip && rest != NO_ROW) {
                    int from = store.lower[k];
                    longer[from] = Math.min(longer[from], store.weightOf(k) + rest);
                }
            }
        }

        /** Takes, step by step, the first BOUND from which the rest can still come below nothing. */
        private void trace(Store store, int x, long weight, int length, int skip) {
            int at = x;
            long sum = weight;
            for (int left = length - 1; left >= 0; left--) {
                int k = firstStep(store, at, sum, left, skip);
                if (k < 0) {
                    return;
                }
                row[size] = k;
                size++;
                sum += store.weightOf(k);
                at = store.upper[k];
            }
        }

        private int firstStep(Store store, int at, long sum, int left, int skip) {
            for (int k = 0; k < store.size; k++) {
                long rest = least[left][store.upper[k]];
                boolean leads = k != skip && store.lower[k] == at && rest != NO_ROW;
                if (leads && sum + store.weightOf(k) + rest < 0) {
                    return k;
                }
            }
            return NONE;
        }
    }

    /** Counts the ways: each THING in turn gets every number that those ahead of it leave. */
    private static final class Span {
        private static final long FREE = 1L << 40;
        private final long[][] caps = new long[WAYS_THINGS][WAYS_THINGS];
        private final long[] values = new long[WAYS_THINGS];
        private int things;
        private int top;

        /** The numbers are whole here whatever WHOLE is, so a STRICT BOUND is one of 1 less. */
        void prepare(Store store, int n, int m) {
            things = n;
            top = m;
            for (int x = 0; x < WAYS_THINGS; x++) {
                Arrays.fill(caps[x], FREE);
            }
            for (int k = 0; k < store.size; k++) {
                int x = store.upper[k];
                int y = store.lower[k];
                if (x < n && y < n) {
                    caps[x][y] = Math.min(caps[x][y], (long) store.limits[k] - store.stricts[k]);
                }
            }
        }

        private static int waysFrom(Span span, int i) {
            if (i < 0 || i >= WAYS_THINGS) {
                return 0;
            }
            long lowest = 0;
            long highest = span.top;
            for (int j = 0; j < i; j++) {
                lowest = Math.max(lowest, span.values[j] - span.caps[j][i]);
                highest = Math.min(highest, span.values[j] + span.caps[i][j]);
            }
            if (i == span.things - 1) {
                return (int) Math.max(0L, highest - lowest + 1);
            }
            int found = 0;
            for (long v = lowest; v <= highest; v++) {
                span.values[i] = v;
                found += waysFrom(span, i + 1);
            }
            return found;
        }
    }

    /** A SHEET: each CELL holds what its lane leaves of a number. */
    private static final class Sheet {
        static final int NO_LANE = -1;
        private final int[] cells = new int[MOST_CELLS];
        int laneOf = NO_LANE;
        int size;

        void renew(int lane, int n) {
            Arrays.fill(cells, 0);
            laneOf = lane;
            size = n;
        }

        /** The FAULT that taking it as of a lane and using some CELLS from one on would meet; 0. */
        int faultAt(int lane, long first, int cellsUsed) {
            if (laneOf == NO_LANE) {
                return NULL_FAULT;
            }
            if (laneOf != lane) {
                return CAST_FAULT;
            }
            return first < 0 || first + cellsUsed > size ? INDEX_FAULT : 0;
        }

        void put(int i, int v) {
            switch (laneOf) {
                case 0:
                    cells[i] = (byte) v;
                    break;
                case 1:
                    cells[i] = (short) v;
                    break;
                default:
                    cells[i] = v;
                    break;
            }
        }

        int cellAt(long i) {
            return i >= 0 && i < size ? cells[(int) i] : 0;
        }
    }

    /** Reads THE TAPE into a draft. The first FAULT stays; behind it nothing more is read. */
    private static final class Reader {
        private static final int AT_END = 0, NAME = 1, NUMBER = 2, MINUS = 3, STOP = 4, NO_TOKEN = 5;
        private static final int REAL = 0, MOST = 1, LESS = 2, LEAST = 3, OVER_LINE = 4, SAME = 5, NO_LINE = -1;
        private static final int MOST_FIGURES = 4;

        final Tape tape = new Tape();
        final Store draft = new Store();
        int wrong;
        int wrongAt;
        int lines;
        private int kind;
        private int at;
        private int behind;

        void readAll() {
            draft.empty();
            wrong = 0;
            wrongAt = 0;
            lines = 0;
            behind = 0;
            next();
            for (int i = 0; i <= MOST_BYTES && wrong == 0 && kind != AT_END; i++) {
                int line = lineOfToken();
                if (line == NO_LINE) {
                    fail(PLACE_FAULT, at);
                } else if (line == REAL) {
                    readReal();
                } else {
                    readBound(line);
                }
                takeStop();
            }
        }

        void fail(int fault, int place) {
            if (wrong == 0) {
                wrong = fault;
                wrongAt = place;
            }
        }

        private void readReal() {
            if (draft.wholeness == 0) {
                fail(TWICE_FAULT, at);
                return;
            }
            draft.wholeness = 0;
            next();
        }

        private void readBound(int line) {
            int more = line == SAME ? 2 : 1;
            if (draft.size + more > MOST_BOUNDS) {
                fail(ROOM_FAULT, at);
                return;
            }
            next();
            int first = takeThing(NONE);
            int second = takeThing(first);
            int amount = takeAmount();
            if (wrong == 0) {
                putBounds(line, first, second, amount);
            }
        }

        private void putBounds(int line, int first, int second, int amount) {
            if (line == MOST || line == LESS || line == SAME) {
                draft.append(first, second, amount, line == LESS ? 1 : 0);
            }
            if (line == LEAST || line == OVER_LINE || line == SAME) {
                draft.append(second, first, -amount, line == OVER_LINE ? 1 : 0);
            }
        }

        /** The THING that the TOKEN names, which must not be the one ahead; NONE with a FAULT. */
        private int takeThing(int ahead) {
            if (wrong != 0) {
                return NONE;
            }
            int v = thingOfToken();
            if (v == NONE) {
                fail(PLACE_FAULT, at);
                return NONE;
            }
            if (v == ahead) {
                fail(TWICE_FAULT, at);
                return NONE;
            }
            next();
            return v;
        }

        private int takeAmount() {
            boolean turned = wrong == 0 && kind == MINUS;
            if (turned) {
                next();
            }
            if (wrong != 0 || kind != NUMBER) {
                fail(PLACE_FAULT, at);
                return 0;
            }
            int amount = figuresOfToken();
            next();
            return turned ? -amount : amount;
        }

        private void takeStop() {
            if (wrong != 0 || kind != STOP) {
                fail(PLACE_FAULT, at);
                return;
            }
            lines++;
            next();
        }

        private int byteAt(int place) {
            return place >= 0 && place < tape.size ? tape.bytes[place] : NONE;
        }

        private static boolean isLetter(int c) {
            return c >= 'a' && c <= 'z';
        }

        private static boolean isFigure(int c) {
            return c >= '0' && c <= '9';
        }

        /** Reads the next TOKEN: its bytes are those from at on, up to behind. */
        private void next() {
            at = behind;
            while (at < tape.size && byteAt(at) == ' ') {
                at++;
            }
            behind = at;
            int c = byteAt(at);
            if (at >= tape.size) {
                kind = AT_END;
            } else if (isLetter(c)) {
                kind = NAME;
                passLetters();
            } else if (isFigure(c)) {
                passFigures();
                kind = behind - at > MOST_FIGURES ? NO_TOKEN : NUMBER;
            } else {
                behind = at + 1;
                kind = c == '-' ? MINUS : c == ';' ? STOP : NO_TOKEN;
            }
            if (kind == NO_TOKEN) {
                fail(NO_TOKEN_FAULT, at);
            }
        }

        private void passLetters() {
            while (behind < tape.size && isLetter(byteAt(behind))) {
                behind++;
            }
        }

        private void passFigures() {
            while (behind < tape.size && isFigure(byteAt(behind))) {
                behind++;
            }
        }

        private int figuresOfToken() {
            int amount = 0;
            for (int i = at; i < behind; i++) {
                amount = 10 * amount + (byteAt(i) - '0');
            }
            return amount;
        }

        private int thingOfToken() {
            boolean single = kind == NAME && behind - at == 1;
            int v = byteAt(at) - 'a';
            return single && isThing(v) ? v : NONE;
        }

        private int lineOfToken() {
            if (kind != NAME) {
                return NO_LINE;
            }
            if (tokenIs("real")) {
                return REAL;
            }
            if (tokenIs("most")) {
                return MOST;
            }
            if (tokenIs("less")) {
                return LESS;
            }
            if (tokenIs("least")) {
                return LEAST;
            }
            if (tokenIs("over")) {
                return OVER_LINE;
            }
            return tokenIs("same") ? SAME : NO_LINE;
        }

        private boolean tokenIs(String word) {
            if (behind - at != word.length()) {
                return false;
            }
            for (int i = 0; i < word.length(); i++) {
                if (byteAt(at + i) != word.charAt(i)) {
                    return false;
                }
            }
            return true;
        }
    }
}
