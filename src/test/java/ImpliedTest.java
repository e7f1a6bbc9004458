/** Promises 21 to 27: what is implied, ways, bounds by a seed. */
public final class ImpliedTest {
    private static final Check CHECK = new Check();
    private static final long NOTHING = GapBounds.NOTHING;
    private static final int LOWEST = Integer.MIN_VALUE;
    private static final int HIGHEST = Integer.MAX_VALUE;

    public static void main(String[] args) {
        implied();
        impliedEdges();
        fixed();
        high();
        reach();
        room();
        ways();
        waysEnds();
        grow();
        growRefused();
        CHECK.close("ImpliedTest");
    }

    private static void implied() {
        Subject g = new Subject().told("most a b 5;less b c 3;most a c 8;most c d -4;");
        CHECK.due("implied(0, 1)", g.implied(0, 1, 0), 5);
        CHECK.due("implied(1, 2)", g.implied(1, 2, 0), 2);
        CHECK.due("implied(0, 2): the ROW is less", g.implied(0, 2, 0), 7);
        CHECK.due("implied(0, 3)", g.implied(0, 3, 0), 3);
        CHECK.due("whole has no EDGES", g.implied(0, 2, 1), 0);
        CHECK.due("the other way: none", g.implied(2, 0, 0), NOTHING);
        CHECK.due("the other way: none", g.implied(2, 0, 1), NOTHING);
        CHECK.due("to itself", g.implied(4, 4, 0), 0);
        CHECK.due("to itself", g.implied(4, 4, 1), 0);
        CHECK.due("implied(-1, 0)", g.implied(-1, 0, 0), GapBounds.BAD);
        CHECK.due("implied(0, 10)", g.implied(0, 10, 0), GapBounds.BAD);
        CHECK.due("implied what -1", g.implied(0, 1, -1), GapBounds.BAD);
        CHECK.due("implied what 2", g.implied(0, 1, 2), GapBounds.BAD);
    }

    private static void impliedEdges() {
        Subject g = new Subject().told("real;less a b -5;less b c 3;most a c -2;most a d -3;less d c 0;");
        CHECK.dueAll("of alike C more EDGES", new long[] {g.implied(0, 2, 0), g.implied(0, 2, 1)}, -3, 1);
        g.change(1, 2);
        CHECK.dueAll("of alike C more EDGES", new long[] {g.implied(0, 2, 0), g.implied(0, 2, 1)}, -3, 2);
        CHECK.dueAll("below 0 with an EDGE", new long[] {g.implied(0, 1, 0), g.implied(0, 1, 1)}, -5, 1);
        g.whole(1);
        CHECK.dueAll("whole", new long[] {g.implied(0, 2, 0), g.implied(0, 2, 1)}, -5, 0);
    }

    private static void fixed() {
        Subject g = new Subject().told("same a b 4;most b c 1;most c a -4;most d e 1;most e d 0;");
        CHECK.due("fixed(0, 1)", g.fixed(0, 1), 1);
        CHECK.due("fixed(1, 0)", g.fixed(1, 0), 1);
        CHECK.due("fixed(0, 2)", g.fixed(0, 2), 0);
        g.change(3, -5);
        CHECK.due("fixed(0, 2) round a CIRCLE", g.fixed(0, 2), 1);
        CHECK.due("fixed(3, 4)", g.fixed(3, 4), 0);
        CHECK.due("fixed(8, 9)", g.fixed(8, 9), 0);
        CHECK.due("fixed(9, 9)", g.fixed(9, 9), 1);
        CHECK.due("fixed(10, 0)", g.fixed(10, 0), GapBounds.BAD);
        CHECK.due("fixed(10, 10)", g.fixed(10, 10), GapBounds.BAD);
        CHECK.due("fixed(0, -1)", g.fixed(0, -1), GapBounds.BAD);
        Subject strict = new Subject().told("less a b 1;most b a 0;");
        CHECK.due("whole: fixed", strict.fixed(0, 1), 1);
        CHECK.due("whole: groups", strict.rule(6), 9);
        strict.whole(0);
        CHECK.due("real: not fixed", strict.fixed(0, 1), 0);
        CHECK.due("real: groups", strict.rule(6), 10);
        Subject ring = new Subject().told("real;most a b 0;most b c 0;most c a 0;same e f 1;");
        CHECK.due("round a CIRCLE", ring.fixed(2, 1), 1);
        CHECK.due("groups", ring.rule(6), 7);
    }

    private static void high() {
        Subject g = new Subject().told("most a b -5;most b c 3;less c d -1;most e a 9;");
        CHECK.dueAll("high", new long[] {g.high(0, 0), g.high(1, 0), g.high(2, 0), g.high(3, 0), g.high(4, 0)},
                -5, 0, -2, 0, 0);
        g.change(1, 1);
        CHECK.dueAll("high", new long[] {g.high(0, 0), g.high(1, 0), g.high(4, 0)}, -6, -1, 0);
        CHECK.due("whole: EDGES", g.high(2, 1), 0);
        g.whole(0);
        CHECK.dueAll("real", new long[] {g.high(0, 0), g.high(0, 1), g.high(2, 0), g.high(2, 1)}, -5, 1, -1, 1);
        CHECK.due("high(-1)", g.high(-1, 0), GapBounds.BAD);
        CHECK.due("high(10)", g.high(10, 0), GapBounds.BAD);
        CHECK.due("high what 2", g.high(0, 2), GapBounds.BAD);
        CHECK.due("high what -1", g.high(0, -1), GapBounds.BAD);
    }

    private static void reach() {
        Subject g = new Subject().told("real;less a b 5;most b a 2;most c a -1;");
        CHECK.dueAll("a by b at 10", new long[] {g.reach(0, 1, 10, 0), g.reach(0, 1, 10, 1), g.reach(0, 1, 10, 2),
            g.reach(0, 1, 10, 3)}, 15, 8, 1, 0);
        CHECK.dueAll("b by a at 10", new long[] {g.reach(1, 0, 10, 0), g.reach(1, 0, 10, 1), g.reach(1, 0, 10, 2),
            g.reach(1, 0, 10, 3)}, 12, 5, 0, 1);
        CHECK.dueAll("a by c", new long[] {g.reach(0, 2, 10, 0), g.reach(0, 2, 10, 1), g.reach(0, 2, 10, 2),
            g.reach(0, 2, 10, 3)}, NOTHING, 11, NOTHING, 0);
        CHECK.dueAll("c by b", new long[] {g.reach(2, 1, 10, 0), g.reach(2, 1, 10, 1), g.reach(2, 1, 10, 2),
            g.reach(2, 1, 10, 3)}, 14, NOTHING, 1, NOTHING);
        CHECK.dueAll("by itself", new long[] {g.reach(9, 9, LOWEST, 0), g.reach(9, 9, LOWEST, 1), g.reach(9, 9, 3, 2),
            g.reach(9, 9, 3, 3)}, LOWEST, LOWEST, 0, 0);
        CHECK.due("beyond 32 bits", g.reach(0, 1, HIGHEST, 0), HIGHEST + 5L);
        CHECK.due("beyond 32 bits", g.reach(0, 1, LOWEST, 1), LOWEST - 2L);
        CHECK.due("reach(10)", g.reach(10, 0, 0, 0), GapBounds.BAD);
        CHECK.due("reach by 10", g.reach(0, 10, 0, 0), GapBounds.BAD);
        CHECK.due("reach(-1)", g.reach(-1, 0, 0, 0), GapBounds.BAD);
        CHECK.due("reach what -1", g.reach(0, 1, 0, -1), GapBounds.BAD);
        CHECK.due("reach what 4", g.reach(0, 1, 0, 4), GapBounds.BAD);
        g.whole(1);
        CHECK.dueAll("whole", new long[] {g.reach(0, 1, 10, 0), g.reach(0, 1, 10, 2)}, 14, 0);
    }

    private static void room() {
        Subject g = new Subject().told("most a b 5;less b c 3;");
        CHECK.dueAll("whole", new long[] {g.room(2, 0, 0), g.room(2, 0, 1), g.room(1, 0, 0), g.room(1, 0, 1)}, -7, 0, -5, 0);
        CHECK.due("that one could", g.may(2, 0, -7, 0), 1);
        CHECK.due("one less could not", g.may(2, 0, -8, 0), 0);
        CHECK.due("no end", g.room(0, 2, 0), NOTHING);
        CHECK.due("no end", g.room(0, 2, 1), NOTHING);
        g.whole(0);
        CHECK.dueAll("real", new long[] {g.room(2, 0, 0), g.room(2, 0, 1), g.room(1, 0, 0), g.room(1, 0, 1)}, -8, 1, -5, 0);
        CHECK.due("just that could not", g.may(2, 0, -8, 0), 0);
        CHECK.due("more could", g.may(2, 0, -7, 0), 1);
        CHECK.due("room(3, 3)", g.room(3, 3, 0), GapBounds.BAD);
        CHECK.due("room(10, 3)", g.room(10, 3, 0), GapBounds.BAD);
        CHECK.due("room(3, -1)", g.room(3, -1, 0), GapBounds.BAD);
        CHECK.due("room what 2", g.room(0, 1, 2), GapBounds.BAD);
        CHECK.due("room what -1", g.room(0, 1, -1), GapBounds.BAD);
    }

    private static void ways() {
        Subject g = new Subject();
        CHECK.due("ways(0, 3)", g.ways(0, 3), GapBounds.BAD);
        CHECK.due("ways(6, 3)", g.ways(6, 3), GapBounds.BAD);
        CHECK.due("ways(1, -1)", g.ways(1, -1), GapBounds.BAD);
        CHECK.due("ways(1, 7)", g.ways(1, 7), GapBounds.BAD);
        CHECK.due("ways(1, 0)", g.ways(1, 0), 1);
        CHECK.due("ways(1, 6)", g.ways(1, 6), 7);
        CHECK.due("ways(5, 6)", g.ways(5, 6), 16807);
        CHECK.due("ways(5, 0)", g.ways(5, 0), 1);
        g.add(0, 1, 0, 1);
        CHECK.due("a below b", g.ways(2, 6), 21);
        CHECK.due("a below b, c free", g.ways(3, 6), 147);
        CHECK.due("a alone", g.ways(1, 6), 7);
        g.whole(0);
        CHECK.due("real: whole numbers all the same", g.ways(2, 6), 21);
        g.add(1, 2, 0, 1);
        CHECK.due("a below b below c", g.ways(3, 6), 35);
        CHECK.due("of 0 to 1: none", g.ways(3, 1), 0);
    }

    private static void waysEnds() {
        Subject g = new Subject().told("most a f 0;most f b -9;");
        CHECK.due("just BOUNDS between them", g.ways(2, 6), 49);
        Subject next = new Subject().told("most a c -9;most c b -9;");
        CHECK.due("the next THING is not between them", next.ways(2, 6), 49);
        CHECK.due("with it", next.ways(3, 6), 0);
        Subject strict = new Subject().told("real;less a b 1;less b a 0;");
        CHECK.due("less than 1 and above 0: none is whole", strict.ways(2, 6), 0);
        Subject ends = new Subject();
        ends.add(0, 1, LOWEST, 1);
        CHECK.due("far below", ends.ways(2, 6), 0);
        ends.drop(0);
        ends.add(1, 0, LOWEST, 1);
        CHECK.due("far above", ends.ways(2, 6), 0);
        ends.drop(0);
        ends.add(1, 0, HIGHEST, 0);
        CHECK.due("far enough", ends.ways(2, 6), 49);
    }

    private static void grow() {
        Subject g = new Subject();
        CHECK.due("grow(1, 0)", g.grow(1, 0), GapBounds.BAD);
        CHECK.due("grow(1, 21)", g.grow(1, 21), GapBounds.BAD);
        CHECK.due("grow(1, -1)", g.grow(1, -1), GapBounds.BAD);
        for (int seed : new int[] {0, 1, -1, 7, 123456789, LOWEST, HIGHEST}) {
            growFrom(seed);
        }
    }

    /** One BOUND at a time by the words of the promise, in long arithmetic of its own. */
    private static void growFrom(int seed) {
        Subject want = new Subject();
        long state = seed;
        int came = 0;
        for (int i = 0; i < 20; i++) {
            state = (state * 1103515245L + 12345L) & 0xFFFFFFFFL;
            int first = (int) ((state / 65536) % 32768);
            state = (state * 1103515245L + 12345L) & 0xFFFFFFFFL;
            int second = (int) ((state / 65536) % 32768);
            int strict = (first / 256) % 4 == 0 ? 1 : 0;
            int had = want.rule(0);
            if (want.add(first % 10, (first / 16) % 10, second % 41 - 12, strict) == had + 1) {
                came++;
            }
        }
        Subject got = new Subject();
        CHECK.due("grow(" + seed + ", 20)", got.grow(seed, 20), came);
        CHECK.same("grown by " + seed, bounds(got), bounds(want));
    }

    private static String bounds(Subject g) {
        String state = Check.state(g);
        return state.substring(0, state.indexOf(" conflict"));
    }

    private static void growRefused() {
        Subject g = new Subject();
        for (int i = 0; i < 10; i++) {
            for (int j = 0; j < 2; j++) {
                g.add(i, (i + 1) % 10, 12, 0);
            }
        }
        g.add(0, 5, 100, 0);
        g.add(1, 6, 100, 0);
        g.add(2, 7, 100, 0);
        CHECK.due("room for one", g.grow(3, 20) <= 1 ? 1 : 0, 1);
        g.grow(4, 20);
        g.grow(5, 20);
        CHECK.due("24 at most", g.rule(0), 24);
        CHECK.due("grow when full", g.grow(6, 20), 0);
        CHECK.due("CONFLICT stays", g.rule(7), 0);
    }
}
