/** Promise 27: BOUNDS by a seed. */
final class GrowEdges {
    private static final Check CHECK = EdgesTest.CHECK;
    private static final int LOWEST = Integer.MIN_VALUE, HIGHEST = Integer.MAX_VALUE;

    private GrowEdges() {
    }

    /** The promise's words in long arithmetic: x, y, C, STRICT and the seed that it leaves. */
    private static long[] boundOf(long seed) {
        long one = (seed * 1103515245L + 12345L) & 0xFFFFFFFFL;
        long two = (one * 1103515245L + 12345L) & 0xFFFFFFFFL;
        long first = one / 65536 % 32768;
        long second = two / 65536 % 32768;
        return new long[] {first % 10, first / 16 % 10, second % 41 - 12, first / 256 % 4 == 0 ? 1 : 0, two};
    }

    private static String boundText(long[] b) {
        return b[0] + "," + b[1] + "," + b[2] + "," + b[3];
    }

    /** The first seed from 0 on of whose first BOUND x, y, C, STRICT are as asked (-99: any). */
    private static int seedOf(int x, int y, int c, int strict) {
        int[] want = {x, y, c, strict};
        for (int seed = 0; seed < 1000000; seed++) {
            long[] b = boundOf(seed);
            boolean fits = true;
            for (int i = 0; i < 4; i++) {
                fits &= want[i] == -99 || want[i] == b[i];
            }
            if (fits) {
                return seed;
            }
        }
        throw new IllegalStateException("no seed");
    }

    static void promise27GrowNFrom1To20() {
        CHECK.words(27, "n times (1 to 20) by a seed");
        CHECK.words(27, "BAD.");
        for (int n : new int[] {0, 21, -1, LOWEST, HIGHEST}) {
            CHECK.refused("grow(1, " + n + ")", Scene::rich, g -> g.grow(1, n), GapBounds.BAD);
            CHECK.refused("grow(1, " + n + ") of 24", Scene::full, g -> g.grow(1, n), GapBounds.BAD);
        }
        int seed = seedOf(3, 4, -99, -99);
        Subject one = new Subject();
        CHECK.due("grow(seed, 1)", one.grow(seed, 1), 1);
        CHECK.same("its BOUND", Scene.now(one), "1 1 bounds " + boundText(boundOf(seed)) + " levels");
    }

    static void promise27GrowIsNTimes() {
        CHECK.words(27, "twice the seed becomes seed times 1103515245 and 12345, bits 16 to 30 of it are got");
        for (int seed : new int[] {0, 1, -1, 7, 8, 9, 65535, 65536, 12345678, LOWEST, HIGHEST}) {
            for (int n : new int[] {1, 2, 19, 20}) {
                growsAsTold(seed, n);
            }
        }
    }

    private static void growsAsTold(int seed, int n) {
        Subject due = new Subject();
        long state = seed;
        int came = 0;
        for (int i = 0; i < n; i++) {
            long[] b = boundOf(state);
            came += due.add((int) b[0], (int) b[1], (int) b[2], (int) b[3]) > 0 ? 1 : 0;
            state = b[4];
        }
        Subject g = new Subject();
        CHECK.due("grow(" + seed + ", " + n + ")", g.grow(seed, n), came);
        CHECK.same("grown by " + seed + ", " + n, Scene.now(g), Scene.now(due));
    }

    static void promise27GrowOfEverySeed() {
        CHECK.words(27, "from the first x (modulo 10), y (by 16, down, modulo 10), STRICT (by 256, down, modulo 4 is 0); from the second C (modulo 41, less 12)");
        int lowest = 99;
        int highest = -99;
        for (int seed = -1500; seed < 1500; seed++) {
            int by = seed * 715827;
            long[] b = boundOf(by);
            boolean comes = b[0] != b[1];
            Subject g = new Subject();
            CHECK.due("grow(" + by + ", 1)", g.grow(by, 1), comes ? 1 : 0);
            CHECK.same("by " + by, Scene.now(g), (comes ? "1 1 bounds " + boundText(b) : "0 1 bounds") + " levels");
            lowest = Math.min(lowest, (int) b[2]);
            highest = Math.max(highest, (int) b[2]);
        }
        CHECK.dueAll("C goes from -12 to 28", new long[] {lowest, highest}, -12, 28);
    }

    static void promise27GrowIfXIsNotY() {
        CHECK.words(27, "such a BOUND comes, if it may (x is not y, there is room, it can be with the others): how many came.");
        for (int v : new int[] {0, 5, 9}) {
            int seed = seedOf(v, v, -99, -99);
            CHECK.refused("x and y " + v, Scene::rich, g -> g.grow(seed, 1), 0);
        }
        int ends = seedOf(0, 9, -99, -99);
        CHECK.due("x 0, y 9", new Subject().grow(ends, 1), 1);
        int turned = seedOf(9, 0, -99, -99);
        CHECK.due("x 9, y 0", new Subject().grow(turned, 1), 1);
    }

    static void promise27GrowIfThereIsRoom() {
        int seed = seedOf(8, 9, -99, -99);
        Subject g = new Subject().filled(22, 0, 1, 5);
        CHECK.due("the 23rd", g.grow(seed, 1), 1);
        CHECK.due("the 24th", g.grow(seed, 1), 1);
        CHECK.due("the 25th", g.grow(seed, 1), 0);
        CHECK.due("rule(0)", g.rule(0), 24);
        CHECK.refused("24 BOUNDS", Scene::full, f -> f.grow(seed, 1), 0);
        CHECK.refused("24 BOUNDS, 20 times", Scene::full, f -> f.grow(7, 20), 0);
        Subject one = new Subject().filled(23, 0, 1, 500);
        CHECK.due("room for one, 20 times", one.grow(7, 20), 1);
        CHECK.due("rule(0)", one.rule(0), 24);
    }

    static void promise27GrowIfItCanBeWithTheOthers() {
        for (int strict = 0; strict < 2; strict++) {
            int seed = seedOf(2, 0, -7, strict);
            for (int sum = 6; sum <= 8; sum++) {
                Subject g = new Subject().told("most a b 1;");
                g.add(1, 2, sum - 1, 0);
                boolean comes = sum >= 7 + strict;
                CHECK.due("-7, STRICT " + strict + ", against " + sum, g.grow(seed, 1), comes ? 1 : 0);
                CHECK.due("rule(0)", g.rule(0), comes ? 3 : 2);
            }
        }
        int seed = seedOf(2, 0, -7, 1);
        Subject any = new Subject().told("real;most a c 7;");
        CHECK.due("any: less than -7 against 7", any.grow(seed, 1), 0);
        any.change(0, 8);
        CHECK.due("any: less than -7 against 8", any.grow(seed, 1), 1);
    }

    static void promise27ConflictStays() {
        CHECK.words(27, "(CONFLICT stays.)");
        int seed = seedOf(1, 0, -12, -99);
        CHECK.refused("refused", Scene::rich, g -> g.grow(seed, 1), 0);
        Subject g = new Subject();
        g.add(0, 1, 5, 0);
        CHECK.due("refused", g.grow(seed, 1), 0);
        CHECK.due("no CONFLICT comes", g.rule(7), 0);
    }
}
