/** A GapBounds whose calls are counted: what it answers behind its 512th call is free, so no test asks for it. */
final class Subject {
    static final int MOST_CALLS = 512;

    private final GapBounds g = new GapBounds();
    private int calls = 0;

    private GapBounds next() {
        calls++;
        if (calls > MOST_CALLS) {
            throw new IllegalStateException("a test asks one object for more than " + MOST_CALLS + " calls");
        }
        return g;
    }

    /** How many calls may still come. */
    int left() {
        return MOST_CALLS - calls;
    }

    /** Feeds a text byte by byte. */
    Subject fed(String text) {
        for (int i = 0; i < text.length(); i++) {
            feed(text.charAt(i));
        }
        return this;
    }

    /** Feeds a text and has it taken, which must be so. */
    Subject told(String text) {
        if (fed(text).text() < 0) {
            throw new IllegalStateException("not taken: " + text);
        }
        return this;
    }

    /** So many BOUNDS more, all of one pair and alike. */
    Subject filled(int more, int x, int y, int c) {
        for (int i = 0; i < more; i++) {
            add(x, y, c, 0);
        }
        return this;
    }

    /** A SHEET of a lane with these CELLS. */
    Subject laid(int k, int lane, int... cells) {
        sheet(k, lane, cells.length);
        for (int i = 0; i < cells.length; i++) {
            lay(k, i, cells[i]);
        }
        return this;
    }

    int feed(int c) {
        return next().feed(c);
    }

    int end(int n) {
        return next().end(n);
    }

    int text() {
        return next().text();
    }

    int fault() {
        return next().fault();
    }

    int rule(int what) {
        return next().rule(what);
    }

    int bound(int k, int what) {
        return next().bound(k, what);
    }

    long limit(int k) {
        return next().limit(k);
    }

    int tightest(int x, int y) {
        return next().tightest(x, y);
    }

    int pair(int i) {
        return next().pair(i);
    }

    int add(int x, int y, int c, int strict) {
        return next().add(x, y, c, strict);
    }

    int may(int x, int y, int c, int strict) {
        return next().may(x, y, c, strict);
    }

    int conflict(int i) {
        return next().conflict(i);
    }

    int drop(int k) {
        return next().drop(k);
    }

    int change(int k, int c) {
        return next().change(k, c);
    }

    int shift(int v, int t) {
        return next().shift(v, t);
    }

    int whole(int v) {
        return next().whole(v);
    }

    int push() {
        return next().push();
    }

    int pop(int n) {
        return next().pop(n);
    }

    int level(int n) {
        return next().level(n);
    }

    long implied(int x, int y, int what) {
        return next().implied(x, y, what);
    }

    int fixed(int x, int y) {
        return next().fixed(x, y);
    }

    long high(int v, int what) {
        return next().high(v, what);
    }

    long reach(int v, int o, int t, int what) {
        return next().reach(v, o, t, what);
    }

    long room(int x, int y, int what) {
        return next().room(x, y, what);
    }

    int ways(int n, int m) {
        return next().ways(n, m);
    }

    int grow(int seed, int n) {
        return next().grow(seed, n);
    }

    int keep(int k) {
        return next().keep(k);
    }

    int back(int k) {
        return next().back(k);
    }

    int sheet(int k, int lane, int n) {
        return next().sheet(k, lane, n);
    }

    int lay(int k, int i, int v) {
        return next().lay(k, i, v);
    }

    int read(int k, int lane, int f, int n) {
        return next().read(k, lane, f, n);
    }

    int torn() {
        return next().torn();
    }

    int count(int what) {
        return next().count(what);
    }
}
