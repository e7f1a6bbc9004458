import java.util.ArrayList;
import java.util.HashSet;
import java.util.LinkedHashSet;
import java.util.List;
import java.util.Set;

/** The document told a second time, slowly and plainly: pairs as pairs, ROWS and ways by trying all. */
final class PlainModel {
    record Weight(long c, long edges) implements Comparable<Weight> {
        Weight plus(Weight o) {
            return new Weight(c + o.c, edges + o.edges);
        }

        boolean belowNothing() {
            return c < 0 || c == 0 && edges > 0;
        }

        @Override
        public int compareTo(Weight o) {
            return c != o.c ? Long.compare(c, o.c) : Long.compare(o.edges, edges);
        }
    }

    record Bound(int x, int y, int c, boolean strict) {
        Weight weight(int whole) {
            if (whole == 1) {
                return new Weight((long) c - (strict ? 1 : 0), 0);
            }
            return new Weight(c, strict ? 1 : 0);
        }
    }

    record Image(List<Bound> bounds, int whole, List<Integer> levels) {
    }

    /** A FAULT of the text, thrown from where it is met. */
    static final class Fault extends Exception {
        private static final long serialVersionUID = 1L;
        final int number;
        final int place;

        Fault(int number, int place) {
            this.number = number;
            this.place = place;
        }
    }

    private static final int BAD = -1, STATE = -2, FULL = -3, NONE = -4, OVER = -5;
    private static final long NOTHING = 1000000000000L;
    private static final Weight ZERO = new Weight(0, 0);

    private List<Bound> bounds = new ArrayList<>();
    private int whole = 1;
    private List<Integer> levels = new ArrayList<>();
    private List<Integer> conflict = new ArrayList<>();
    private final Image[] images = new Image[2];
    private final Object[] sheets = new Object[4];
    private final StringBuilder tape = new StringBuilder();
    private int fault = 0;
    private int torn = 0;

    // ---- the text

    int feed(int c) {
        if (c < 0 || c > 127) {
            return BAD;
        }
        if (tape.length() == 320) {
            return FULL;
        }
        return tape.append((char) c).length();
    }

    int end(int n) {
        int had = tape.length();
        if (n < 0 || n > had) {
            return BAD;
        }
        tape.setLength(n);
        return had;
    }

    private String source;
    private int from;
    private int to;

    private void token() throws Fault {
        from = to;
        while (from < source.length() && source.charAt(from) == ' ') {
            from++;
        }
        String rest = source.substring(from);
        String run = rest.replaceFirst("(?s)^([a-z]+|[0-9]+|[-;]|).*$", "$1");
        if (run.isEmpty() && !rest.isEmpty() || run.matches("[0-9]{5,}")) {
            throw new Fault(1, from);
        }
        to = from + run.length();
    }

    private String word() {
        return source.substring(from, to);
    }

    private void must(boolean stands) throws Fault {
        if (!stands) {
            throw new Fault(2, from);
        }
    }

    int text() {
        source = tape.toString();
        tape.setLength(0);
        to = 0;
        try {
            int lines = 0;
            int read = 1;
            List<Bound> told = new ArrayList<>();
            for (token(); !word().isEmpty(); token()) {
                if (word().equals("real")) {
                    if (read == 0) {
                        throw new Fault(4, from);
                    }
                    read = 0;
                    token();
                } else {
                    boundLine(told);
                }
                must(word().equals(";"));
                lines++;
            }
            if (!canHold(told, read)) {
                throw new Fault(6, source.length());
            }
            bounds = told;
            whole = read;
            levels.clear();
            conflict.clear();
            images[0] = null;
            images[1] = null;
            fault = 0;
            return lines;
        } catch (Fault f) {
            fault = f.number;
            return -10 - f.place;
        }
    }

    private void boundLine(List<Bound> told) throws Fault {
        String k = word();
        must(Set.of("most", "less", "least", "over", "same").contains(k));
        if (told.size() + (k.equals("same") ? 2 : 1) > 24) {
            throw new Fault(5, from);
        }
        token();
        must(word().matches("[a-j]"));
        int v = word().charAt(0) - 'a';
        token();
        must(word().matches("[a-j]"));
        int w = word().charAt(0) - 'a';
        if (v == w) {
            throw new Fault(4, from);
        }
        token();
        int sign = 1;
        if (word().equals("-")) {
            sign = -1;
            token();
        }
        must(word().matches("[0-9]+"));
        int s = sign * Integer.parseInt(word());
        token();
        switch (k) {
            case "most" -> told.add(new Bound(v, w, s, false));
            case "less" -> told.add(new Bound(v, w, s, true));
            case "least" -> told.add(new Bound(w, v, -s, false));
            case "over" -> told.add(new Bound(w, v, -s, true));
            default -> {
                told.add(new Bound(v, w, s, false));
                told.add(new Bound(w, v, -s, false));
            }
        }
    }

    int fault() {
        return fault;
    }

    int rule(int what) {
        switch (what) {
            case 0: return bounds.size();
            case 1: return whole;
            case 2: return levels.size();
            case 3: return pairs().size();
            case 4: {
                Set<Integer> all = new HashSet<>();
                bounds.forEach(b -> all.add(b.c));
                return all.size();
            }
            case 5: {
                int n = 0;
                for (int k = 0; k < bounds.size(); k++) {
                    n += bound(k, 3);
                }
                return n;
            }
            case 6: {
                Weight[][] d = closure(bounds, whole);
                Set<Set<Integer>> groups = new HashSet<>();
                for (int v = 0; v < 10; v++) {
                    Set<Integer> group = new HashSet<>();
                    for (int u = 0; u < 10; u++) {
                        if (d[u][v] != null && d[v][u] != null && d[u][v].plus(d[v][u]).equals(ZERO)) {
                            group.add(u);
                        }
                    }
                    groups.add(group);
                }
                return groups.size();
            }
            case 7: return conflict.size();
            default: return BAD;
        }
    }

    private List<Integer> pairs() {
        Set<Integer> all = new LinkedHashSet<>();
        bounds.forEach(b -> all.add(10 * b.x + b.y));
        return new ArrayList<>(all);
    }

    int bound(int k, int what) {
        if (k < 0 || k >= bounds.size() || what < 0 || what > 4) {
            return BAD;
        }
        Bound b = bounds.get(k);
        if (what == 0) {
            return b.x;
        }
        if (what == 1) {
            return b.y;
        }
        if (what == 2) {
            return b.strict ? 1 : 0;
        }
        if (what == 3) {
            List<Bound> others = new ArrayList<>(bounds);
            others.remove(k);
            Weight w = closure(others, whole)[b.y][b.x];
            return w != null && w.compareTo(b.weight(whole)) <= 0 ? 1 : 0;
        }
        return (int) bounds.stream().filter(o -> o.x == b.x && o.y == b.y).count();
    }

    long limit(int k) {
        return k < 0 || k >= bounds.size() ? NOTHING : bounds.get(k).c;
    }

    int tightest(int x, int y) {
        if (notPair(x, y)) {
            return BAD;
        }
        int best = NONE;
        for (int k = bounds.size() - 1; k >= 0; k--) {
            Bound b = bounds.get(k);
            if (b.x == x && b.y == y && (best < 0 || b.weight(whole).compareTo(bounds.get(best).weight(whole)) <= 0)) {
                best = k;
            }
        }
        return best;
    }

    int pair(int i) {
        return i < 0 ? BAD : i >= pairs().size() ? NONE : pairs().get(i);
    }

    // ---- bounds

    private static boolean notThing(int v) {
        return v < 0 || v > 9;
    }

    private static boolean notPair(int x, int y) {
        return notThing(x) || notThing(y) || x == y;
    }

    /** Least WEIGHTS [from][to], by going over a THING between, again and again. */
    private static Weight[][] closure(List<Bound> all, int whole) {
        Weight[][] d = new Weight[10][10];
        for (Bound b : all) {
            Weight w = b.weight(whole);
            if (d[b.y][b.x] == null || w.compareTo(d[b.y][b.x]) < 0) {
                d[b.y][b.x] = w;
            }
        }
        for (int v = 0; v < 10; v++) {
            d[v][v] = ZERO;
        }
        for (int m = 0; m < 10; m++) {
            for (int i = 0; i < 10; i++) {
                for (int j = 0; j < 10; j++) {
                    if (d[i][m] != null && d[m][j] != null) {
                        Weight sum = d[i][m].plus(d[m][j]);
                        if (d[i][j] == null || sum.compareTo(d[i][j]) < 0) {
                            d[i][j] = sum;
                        }
                    }
                }
            }
        }
        return d;
    }

    /** One bound at a time: it closes a CIRCLE below nothing, or not. */
    private static boolean canHold(List<Bound> all, int whole) {
        for (int k = 0; k < all.size(); k++) {
            Bound b = all.get(k);
            Weight against = closure(all.subList(0, k), whole)[b.x][b.y];
            if (against != null && against.plus(b.weight(whole)).belowNothing()) {
                return false;
            }
        }
        return true;
    }

    private boolean fits(List<Bound> others, Bound b) {
        Weight against = closure(others, whole)[b.x][b.y];
        return against == null || !against.plus(b.weight(whole)).belowNothing();
    }

    /** Tries all ROWS of 1 BOUND, of 2, ..: in the order of their numbers. */
    private List<Integer> rowAgainst(Bound b, int skip) {
        for (int length = 1; length <= 9; length++) {
            List<Integer> row = new ArrayList<>();
            if (rowFrom(b.x, b.y, b.weight(whole), length, skip, row, 1 << b.x)) {
                return row;
            }
        }
        throw new IllegalStateException("no row speaks against " + b);
    }

    private boolean rowFrom(int at, int goal, Weight sum, int length, int skip, List<Integer> row, int met) {
        if (length == 0) {
            return at == goal && sum.belowNothing();
        }
        for (int k = 0; k < bounds.size(); k++) {
            Bound b = bounds.get(k);
            if (k != skip && b.y == at && (met >> b.x & 1) == 0) {
                row.add(k);
                if (rowFrom(b.x, goal, sum.plus(b.weight(whole)), length - 1, skip, row, met | 1 << b.x)) {
                    return true;
                }
                row.remove(row.size() - 1);
            }
        }
        return false;
    }

    int add(int x, int y, int c, int strict) {
        if (notPair(x, y) || strict < 0 || strict > 1) {
            return BAD;
        }
        if (bounds.size() == 24) {
            return FULL;
        }
        Bound b = new Bound(x, y, c, strict == 1);
        if (!fits(bounds, b)) {
            conflict = rowAgainst(b, -1);
            return STATE;
        }
        bounds.add(b);
        return bounds.size();
    }

    int may(int x, int y, int c, int strict) {
        if (notPair(x, y) || strict < 0 || strict > 1) {
            return BAD;
        }
        return fits(bounds, new Bound(x, y, c, strict == 1)) ? 1 : 0;
    }

    int conflict(int i) {
        return i < 0 ? BAD : i >= conflict.size() ? NONE : conflict.get(i);
    }

    int drop(int k) {
        if (k < 0 || k >= bounds.size()) {
            return BAD;
        }
        bounds.remove(k);
        levels.replaceAll(n -> n > k ? n - 1 : n);
        return bounds.size();
    }

    int change(int k, int c) {
        if (k < 0 || k >= bounds.size()) {
            return BAD;
        }
        Bound b = new Bound(bounds.get(k).x, bounds.get(k).y, c, bounds.get(k).strict);
        List<Bound> others = new ArrayList<>(bounds);
        others.remove(k);
        if (!fits(others, b)) {
            conflict = rowAgainst(b, k);
            return STATE;
        }
        bounds.set(k, b);
        return 1;
    }

    int shift(int v, int t) {
        if (notThing(v)) {
            return BAD;
        }
        List<Bound> shifted = new ArrayList<>();
        int n = 0;
        for (Bound b : bounds) {
            long c = b.c + (b.x == v ? (long) t : b.y == v ? -(long) t : 0L);
            if (c != (int) c) {
                return OVER;
            }
            n += b.x == v || b.y == v ? 1 : 0;
            shifted.add(new Bound(b.x, b.y, (int) c, b.strict));
        }
        bounds = shifted;
        return n;
    }

    int whole(int v) {
        if (v < 0 || v > 1) {
            return BAD;
        }
        if (!canHold(bounds, v)) {
            return STATE;
        }
        int was = whole;
        whole = v;
        return was;
    }

    // ---- levels

    int push() {
        if (levels.size() == 8) {
            return FULL;
        }
        levels.add(bounds.size());
        return levels.size();
    }

    int pop(int n) {
        if (n < 0 || n >= levels.size()) {
            return BAD;
        }
        int had = bounds.size();
        bounds = new ArrayList<>(bounds.subList(0, levels.get(n)));
        levels = new ArrayList<>(levels.subList(0, n));
        return had - bounds.size();
    }

    int level(int n) {
        return n < 0 || n >= levels.size() ? BAD : levels.get(n);
    }

    // ---- what is implied

    long implied(int x, int y, int what) {
        if (notThing(x) || notThing(y) || what < 0 || what > 1) {
            return BAD;
        }
        Weight w = closure(bounds, whole)[y][x];
        return w == null ? NOTHING : what == 0 ? w.c : w.edges;
    }

    int fixed(int x, int y) {
        if (notThing(x) || notThing(y)) {
            return BAD;
        }
        Weight[][] d = closure(bounds, whole);
        return d[x][y] != null && d[y][x] != null && d[x][y].plus(d[y][x]).equals(ZERO) ? 1 : 0;
    }

    long high(int v, int what) {
        if (notThing(v) || what < 0 || what > 1) {
            return BAD;
        }
        Weight[][] d = closure(bounds, whole);
        Weight least = ZERO;
        for (int u = 0; u < 10; u++) {
            if (d[u][v] != null && d[u][v].compareTo(least) < 0) {
                least = d[u][v];
            }
        }
        return what == 0 ? least.c : least.edges;
    }

    long reach(int v, int o, int t, int what) {
        if (notThing(v) || notThing(o) || what < 0 || what > 3) {
            return BAD;
        }
        Weight[][] d = closure(bounds, whole);
        Weight up = d[o][v];
        Weight down = d[v][o];
        switch (what) {
            case 0: return up == null ? NOTHING : t + up.c;
            case 1: return down == null ? NOTHING : t - down.c;
            case 2: return up == null ? NOTHING : up.edges;
            default: return down == null ? NOTHING : down.edges;
        }
    }

    long room(int x, int y, int what) {
        if (notPair(x, y) || what < 0 || what > 1) {
            return BAD;
        }
        Weight against = closure(bounds, whole)[x][y];
        return against == null ? NOTHING : what == 0 ? -against.c : against.edges > 0 ? 1 : 0;
    }

    int ways(int n, int m) {
        if (n < 1 || n > 5 || m < 0 || m > 6) {
            return BAD;
        }
        int all = 1;
        for (int i = 0; i < n; i++) {
            all *= m + 1;
        }
        int found = 0;
        for (int code = 0; code < all; code++) {
            int[] value = new int[n];
            int rest = code;
            for (int i = 0; i < n; i++) {
                value[i] = rest % (m + 1);
                rest /= m + 1;
            }
            found += holds(value) ? 1 : 0;
        }
        return found;
    }

    private boolean holds(int[] value) {
        for (Bound b : bounds) {
            if (b.x < value.length && b.y < value.length) {
                long gap = value[b.x] - value[b.y];
                if (gap > b.c || b.strict && gap == b.c) {
                    return false;
                }
            }
        }
        return true;
    }

    // ---- by a seed

    int grow(int seed, int n) {
        if (n < 1 || n > 20) {
            return BAD;
        }
        List<Integer> had = conflict;
        int came = 0;
        int s = seed;
        for (int i = 0; i < n; i++) {
            s = s * 1103515245 + 12345;
            int a = s >> 16 & 0x7fff;
            s = s * 1103515245 + 12345;
            int b = s >> 16 & 0x7fff;
            came += add(a % 10, (a >> 4) % 10, b % 41 - 12, (a >> 8 & 3) == 0 ? 1 : 0) > 0 ? 1 : 0;
        }
        conflict = had;
        return came;
    }

    // ---- images, sheets

    int keep(int k) {
        if (k < 0 || k > 1) {
            return BAD;
        }
        int had = images[k] == null ? 0 : 1;
        images[k] = new Image(List.copyOf(bounds), whole, List.copyOf(levels));
        return had;
    }

    int back(int k) {
        if (k < 0 || k > 1) {
            return BAD;
        }
        if (images[k] == null) {
            return STATE;
        }
        bounds = new ArrayList<>(images[k].bounds);
        whole = images[k].whole;
        levels = new ArrayList<>(images[k].levels);
        return bounds.size();
    }

    int sheet(int k, int lane, int n) {
        if (k < 0 || k > 3 || lane < 0 || lane > 2 || n > 40) {
            return BAD;
        }
        try {
            sheets[k] = lane == 0 ? new byte[n] : lane == 1 ? new short[n] : new int[n];
            return 1;
        } catch (NegativeArraySizeException e) {
            return -14;
        }
    }

    int lay(int k, int i, int v) {
        if (k < 0 || k > 3) {
            return BAD;
        }
        try {
            if (sheets[k] instanceof byte[] b) {
                b[i] = (byte) v;
            } else if (sheets[k] instanceof short[] s) {
                s[i] = (short) v;
            } else {
                ((int[]) sheets[k])[i] = v;
            }
            return 1;
        } catch (NullPointerException e) {
            return -11;
        } catch (ArrayIndexOutOfBoundsException e) {
            return -12;
        }
    }

    private int cell(int k, int lane, int i) {
        return lane == 0 ? ((byte[]) sheets[k])[i] : lane == 1 ? ((short[]) sheets[k])[i] : ((int[]) sheets[k])[i];
    }

    int read(int k, int lane, int f, int n) {
        if (k < 0 || k > 3 || lane < 0 || lane > 2 || n < 0 || n > 10) {
            return BAD;
        }
        List<Bound> had = new ArrayList<>(bounds);
        int found = 0;
        try {
            for (int i = 0; i < n; i++) {
                int at = f + 4 * i;
                int x = cell(k, lane, at);
                int y = cell(k, lane, at + 1);
                int c = cell(k, lane, at + 2);
                int strict = cell(k, lane, at + 3);
                if (add(x, y, c, strict) < 0) {
                    bounds = had;
                    return -20 - i;
                }
            }
        } catch (NullPointerException e) {
            found = 1;
        } catch (ArrayIndexOutOfBoundsException e) {
            found = 2;
        } catch (ClassCastException e) {
            found = 3;
        }
        torn = found;
        return bounds.size() - had.size();
    }

    int torn() {
        return torn;
    }

    int count(int what) {
        switch (what) {
            case 0: return (images[0] == null ? 0 : 1) + (images[1] == null ? 0 : 1);
            case 1: return tape.length();
            case 2: return sheets[0] == null ? NONE : java.lang.reflect.Array.getLength(sheets[0]);
            case 3: return (int) bounds.stream().filter(Bound::strict).count();
            default: return BAD;
        }
    }
}
