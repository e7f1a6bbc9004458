/** Promises 11 to 17: BOUNDS that come, go and change. */
final class BoundsEdges {
    private static final Check CHECK = EdgesTest.CHECK;
    private static final int LOWEST = Integer.MIN_VALUE, HIGHEST = Integer.MAX_VALUE;
    private static final int[] NO_THINGS = {-1, 10, LOWEST, HIGHEST};
    private static final int[] NO_BITS = {-1, 2, LOWEST, HIGHEST};

    private BoundsEdges() {
    }

    static void promise11AddOfThings0To9() {
        CHECK.words(11, "A BOUND comes behind all others: how many there are.");
        CHECK.words(11, "BAD");
        CHECK.words(11, "BAD -1 (a number is not as told, there is no such THING, BOUND, LEVEL, IMAGE, SHEET)");
        for (int no : NO_THINGS) {
            CHECK.refused("add(" + no + ", 0, 1, 0)", Scene::rich, g -> g.add(no, 0, 1, 0), GapBounds.BAD);
            CHECK.refused("add(0, " + no + ", 1, 0)", Scene::rich, g -> g.add(0, no, 1, 0), GapBounds.BAD);
        }
        Subject g = new Subject();
        CHECK.due("add(0, 9)", g.add(0, 9, 1, 0), 1);
        CHECK.due("add(9, 0)", g.add(9, 0, 1, 0), 2);
        CHECK.same("told", Scene.now(g), "2 1 bounds 0,9,1,0 9,0,1,0 levels");
    }

    static void promise11AddXIsY() {
        CHECK.words(11, "x is not y");
        for (int v = 0; v < 10; v++) {
            int of = v;
            CHECK.refused("add(" + v + ", " + v + ", 1, 0)", Scene::rich, g -> g.add(of, of, 1, 0), GapBounds.BAD);
        }
        CHECK.refused("add(3, 3, -1, 0)", Scene::rich, g -> g.add(3, 3, -1, 0), GapBounds.BAD);
    }

    static void promise11AddStrict0Or1() {
        CHECK.words(11, "each: THING x less THING y is no more than C, or, if it is STRICT, less than C");
        for (int no : NO_BITS) {
            CHECK.refused("add(0, 1, 9, " + no + ")", Scene::rich, g -> g.add(0, 1, 9, no), GapBounds.BAD);
        }
        Subject g = new Subject();
        CHECK.dueAll("add", new long[] {g.add(0, 1, 9, 0), g.add(0, 1, 9, 1)}, 1, 2);
        CHECK.dueAll("bound(k, 2)", new long[] {g.bound(0, 2), g.bound(1, 2)}, 0, 1);
    }

    static void promise11AddC32Bits() {
        CHECK.words(11, "C any number of 32 bits");
        Subject g = new Subject();
        CHECK.due("add HIGHEST", g.add(0, 1, HIGHEST, 0), 1);
        CHECK.due("add LOWEST", g.add(2, 3, LOWEST, 0), 2);
        CHECK.due("add HIGHEST, STRICT", g.add(4, 5, HIGHEST, 1), 3);
        CHECK.due("add LOWEST, STRICT", g.add(6, 7, LOWEST, 1), 4);
        CHECK.same("told", Scene.now(g), "4 1 bounds 0,1,2147483647,0 2,3,-2147483648,0 4,5,2147483647,1 "
                + "6,7,-2147483648,1 levels");
    }

    static void promise11TheCircleMayBeNothingNotBelow() {
        CHECK.words(11, "STATE: it can not be with the others (CONFLICT is told then).");
        CHECK.words(11, "below nothing is one with C below 0, or with C 0 and any EDGE.");
        int[][] tries = {{-4, 0, 3}, {-5, 0, 3}, {-6, 0, GapBounds.STATE}, {-4, 1, 3}, {-5, 1, GapBounds.STATE}};
        for (int[] t : tries) {
            Subject g = new Subject().told("most a b 3;most b c 2;");
            CHECK.due("whole: add(2, 0, " + t[0] + ", " + t[1] + ") against 5", g.add(2, 0, t[0], t[1]), t[2]);
        }
        int[][] any = {{-4, 1, 3}, {-5, 0, 3}, {-5, 1, GapBounds.STATE}, {-6, 0, GapBounds.STATE}};
        for (int[] t : any) {
            Subject g = new Subject().told("real;most a b 3;most b c 2;");
            CHECK.due("any: add(2, 0, " + t[0] + ", " + t[1] + ") against 5", g.add(2, 0, t[0], t[1]), t[2]);
        }
        int[][] edge = {{-4, 1, 3}, {-4, 0, 3}, {-5, 0, GapBounds.STATE}, {-5, 1, GapBounds.STATE}};
        for (int[] t : edge) {
            Subject g = new Subject().told("real;most a b 3;less b c 2;");
            CHECK.due("any: add(2, 0, " + t[0] + ", " + t[1] + ") against less than 5", g.add(2, 0, t[0], t[1]), t[2]);
        }
    }

    static void promise11ManyEdgesAreNoC() {
        CHECK.words(11, "Pairs are summed one by one");
        Subject g = new Subject().told("real;");
        for (int v = 0; v < 9; v++) {
            g.add(v, v + 1, 0, 1);
        }
        CHECK.due("10 EDGES, C 1", g.add(9, 0, 1, 1), 10);
        g.drop(9);
        CHECK.due("10 EDGES, C 0", g.add(9, 0, 0, 1), GapBounds.STATE);
        CHECK.due("9 EDGES, C 0", g.add(9, 0, 0, 0), GapBounds.STATE);
        CHECK.due("9 EDGES, C 1", g.add(9, 0, 1, 0), 10);
    }

    static void promise11SumsDoNotWrapAt32Bits() {
        Subject high = new Subject();
        high.add(0, 1, HIGHEST, 0);
        high.add(1, 2, HIGHEST, 0);
        CHECK.due("twice HIGHEST and LOWEST", high.add(2, 0, LOWEST, 1), 3);
        Subject low = new Subject();
        low.add(0, 1, LOWEST, 0);
        low.add(1, 2, LOWEST, 0);
        CHECK.due("twice LOWEST and HIGHEST", low.add(2, 0, HIGHEST, 0), GapBounds.STATE);
        CHECK.due("twice LOWEST and 0", low.add(2, 0, 0, 0), GapBounds.STATE);
        Subject one = new Subject();
        one.add(0, 1, LOWEST, 0);
        CHECK.due("LOWEST and HIGHEST is -1", one.add(1, 0, HIGHEST, 0), GapBounds.STATE);
        one.change(0, LOWEST + 1);
        CHECK.due("LOWEST + 1 and HIGHEST, STRICT", one.add(1, 0, HIGHEST, 1), GapBounds.STATE);
        CHECK.due("LOWEST + 1 and HIGHEST is 0", one.add(1, 0, HIGHEST, 0), 2);
        Subject strict = new Subject();
        strict.add(0, 1, LOWEST, 1);
        CHECK.due("less than LOWEST, and HIGHEST", strict.add(1, 0, HIGHEST, 0), GapBounds.STATE);
        Subject nine = new Subject();
        for (int v = 0; v < 9; v++) {
            nine.add(v, v + 1, v % 2 == 0 ? LOWEST : HIGHEST, 0);
        }
        CHECK.due("5 LOWEST, 4 HIGHEST, HIGHEST: -5", nine.add(9, 0, HIGHEST, 0), GapBounds.STATE);
        nine.change(1, HIGHEST);
        nine.shift(9, 5);
        CHECK.due("the same, 5 less at the end", nine.add(9, 0, HIGHEST, 0), GapBounds.STATE);
        nine.shift(9, -10);
        CHECK.due("the same, 5 more at the end", nine.add(9, 0, HIGHEST, 0), 10);
    }

    static void promise11TheLongestRowSpeaksAgainstIt() {
        for (int strict = 0; strict < 2; strict++) {
            Subject g = new Subject();
            for (int v = 8; v >= 0; v--) {
                g.add(v, v + 1, 1, 0);
            }
            CHECK.due("9 BOUNDS of 1 and -9", g.may(9, 0, -9 + strict, strict), 1);
            CHECK.due("9 BOUNDS of 1 and -10", g.add(9, 0, -10 + strict, strict), GapBounds.STATE);
            CHECK.same("CONFLICT", Scene.conflict(g), "0 1 2 3 4 5 6 7 8");
        }
    }

    static void promise11The25thIsFull() {
        CHECK.words(11, "FULL; STATE");
        CHECK.words(11, "(24 at most)");
        Subject g = new Subject().filled(22, 0, 1, 5);
        CHECK.due("the 23rd", g.add(0, 1, 5, 0), 23);
        CHECK.due("the 24th", g.add(2, 3, 6, 1), 24);
        CHECK.due("the 25th", g.add(0, 1, 5, 0), GapBounds.FULL);
        CHECK.due("bound(23, 0)", g.bound(23, 0), 2);
        CHECK.due("rule(0)", g.rule(0), 24);
        CHECK.refused("the 25th of a full object", Scene::full, f -> f.add(0, 2, 99, 0), GapBounds.FULL);
    }

    static void promise11BadIsAheadOfFullAndFullOfState() {
        CHECK.words(11, "the first that fits");
        CHECK.refused("BAD, full", Scene::full, g -> g.add(10, 0, 1, 0), GapBounds.BAD);
        CHECK.refused("BAD, x is y, full", Scene::full, g -> g.add(1, 1, 1, 0), GapBounds.BAD);
        CHECK.refused("BAD, STRICT 2, full", Scene::full, g -> g.add(1, 0, 1, 2), GapBounds.BAD);
        CHECK.refused("it can not be, full", Scene::full, g -> g.add(1, 0, -6, 0), GapBounds.FULL);
        CHECK.refused("BAD, it could not be", Scene::rich, g -> g.add(1, 0, -6, 2), GapBounds.BAD);
    }

    static void promise11StateTellsConflictAndNoMore() {
        CHECK.words(11, "STATE -2 (as told)");
        CHECK.refused("add(1, 0, -6, 0)", Scene::rich, g -> g.add(1, 0, -6, 0), GapBounds.STATE, "conflict", "0");
        CHECK.refused("add(5, 0, LOWEST, 0)", Scene::rich, g -> g.add(5, 0, LOWEST, 0), GapBounds.STATE,
                "conflict", "4 3 2 1 0");
        CHECK.refused("add(4, 2, -9, 1)", Scene::rich, g -> g.add(4, 2, -9, 1), GapBounds.STATE, "conflict", "3 2");
        CHECK.due("add(4, 2, -8, 1) could", Scene.rich().add(4, 2, -8, 1), 6);
    }

    static void promise12MayOfNumbersAsAdd() {
        CHECK.words(12, "BAD.");
        for (int no : NO_THINGS) {
            CHECK.refused("may(" + no + ", 0, 1, 0)", Scene::rich, g -> g.may(no, 0, 1, 0), GapBounds.BAD);
            CHECK.refused("may(0, " + no + ", 1, 0)", Scene::rich, g -> g.may(0, no, 1, 0), GapBounds.BAD);
        }
        for (int no : NO_BITS) {
            CHECK.refused("may(0, 1, 9, " + no + ")", Scene::rich, g -> g.may(0, 1, 9, no), GapBounds.BAD);
        }
        for (int v : new int[] {0, 4, 9}) {
            CHECK.refused("may(" + v + ", " + v + ", 9, 0)", Scene::rich, g -> g.may(v, v, 9, 0), GapBounds.BAD);
        }
        Subject g = new Subject();
        CHECK.dueAll("0 and 9, C's ends", new long[] {g.may(0, 9, LOWEST, 1), g.may(9, 0, HIGHEST, 0)}, 1, 1);
    }

    static void promise12MayAtNothing() {
        CHECK.words(12, "Whether such a BOUND could come (1, 0");
        Subject g = new Subject().told("most a b 3;most b c 2;");
        CHECK.dueAll("whole, against 5", new long[] {g.may(2, 0, -4, 0), g.may(2, 0, -5, 0), g.may(2, 0, -6, 0),
            g.may(2, 0, -4, 1), g.may(2, 0, -5, 1)}, 1, 1, 0, 1, 0);
        g.whole(0);
        CHECK.dueAll("any, against 5", new long[] {g.may(2, 0, -5, 0), g.may(2, 0, -6, 0), g.may(2, 0, -4, 1),
            g.may(2, 0, -5, 1)}, 1, 0, 1, 0);
        g.add(1, 2, 2, 1);
        CHECK.dueAll("any, against less than 5", new long[] {g.may(2, 0, -4, 0), g.may(2, 0, -5, 0), g.may(2, 0, -4, 1),
            g.may(2, 0, -5, 1)}, 1, 0, 1, 0);
        CHECK.due("along the BOUNDS anything may", g.may(0, 2, LOWEST, 1), 1);
    }

    static void promise12MayAsksForNoRoom() {
        CHECK.words(12, "whether there is room for it or not)");
        CHECK.refused("full: it could", Scene::full, g -> g.may(1, 0, -5, 0), 1);
        CHECK.refused("full: it could not", Scene::full, g -> g.may(1, 0, -6, 0), 0);
        CHECK.refused("full: BAD", Scene::full, g -> g.may(1, 1, -6, 0), GapBounds.BAD);
        CHECK.due("full", Scene.full().add(1, 0, -5, 0), GapBounds.FULL);
    }

    static void promise12MayChangesNothing() {
        CHECK.refused("it could", Scene::rich, g -> g.may(1, 0, -5, 0), 1);
        CHECK.refused("it could not", Scene::rich, g -> g.may(1, 0, -6, 0), 0);
    }

    static void promise13ConflictFrom0On() {
        CHECK.words(13, "The i-th BOUND (0 on) of CONFLICT. BAD: i below 0; NONE: there are not so many.");
        for (int i : new int[] {-1, LOWEST}) {
            CHECK.refused("conflict(" + i + ")", Scene::rich, g -> g.conflict(i), GapBounds.BAD);
            CHECK.due("conflict(" + i + ") of none", new Subject().conflict(i), GapBounds.BAD);
        }
        for (int i : new int[] {2, 3, 9, 10, HIGHEST}) {
            CHECK.refused("conflict(" + i + ") of 2", Scene::rich, g -> g.conflict(i), GapBounds.NONE);
        }
        Subject g = Scene.rich();
        CHECK.dueAll("conflict(0), (1) of 2", new long[] {g.conflict(0), g.conflict(1)}, 1, 0);
        CHECK.due("conflict(0) of none", new Subject().conflict(0), GapBounds.NONE);
    }

    static void promise13ConflictOfNine() {
        Subject g = new Subject();
        for (int v = 0; v < 9; v++) {
            g.add(v, v + 1, 0, 0);
        }
        g.add(9, 0, -1, 0);
        CHECK.dueAll("nine", new long[] {g.conflict(0), g.conflict(8), g.conflict(9), g.conflict(10)},
                8, 0, GapBounds.NONE, GapBounds.NONE);
        g.add(1, 0, -1, 0);
        CHECK.dueAll("then one: the rest is gone", new long[] {g.conflict(0), g.conflict(1), g.conflict(8)},
                0, GapBounds.NONE, GapBounds.NONE);
    }

    static void promise13ConflictOfFewestBounds() {
        CHECK.words(13, "BOUNDS that speak against one that was refused last: of ROWS from its x to its y that are below nothing with its WEIGHT those of fewest BOUNDS");
        String bounds = "most a b 0;most b c 0;most a c 2;";
        int[] cs = {-1, -2, -3};
        String[] due = {"1 0", "1 0", "2"};
        for (int i = 0; i < cs.length; i++) {
            Subject g = new Subject().told(bounds);
            CHECK.due("add(2, 0, " + cs[i] + ", 0)", g.add(2, 0, cs[i], 0), GapBounds.STATE);
            CHECK.same("CONFLICT of " + cs[i], Scene.conflict(g), due[i]);
        }
        Subject edge = new Subject().told("real;most a b 0;most b c 0;less a c 1;");
        edge.add(2, 0, -1, 0);
        CHECK.same("C 0 with an EDGE is below nothing", Scene.conflict(edge), "2");
        Subject none = new Subject().told("real;most a b 0;most b c 0;most a c 1;");
        none.add(2, 0, -1, 0);
        CHECK.same("C 0 without is not", Scene.conflict(none), "1 0");
        Subject own = new Subject().told("real;most a b 0;most b c 0;most a c 1;");
        own.add(2, 0, -1, 1);
        CHECK.same("its own EDGE counts", Scene.conflict(own), "2");
    }

    static void promise13ConflictOfWeightsSummed() {
        Subject g = new Subject().told("most a b 3;most b c 2;most a d 1;most d e 1;most e c 1;");
        int[] cs = {-4, -5, -6};
        String[] due = {"4 3 2", "4 3 2", "1 0"};
        for (int i = 0; i < cs.length; i++) {
            CHECK.due("refused", g.add(2, 0, cs[i], 0), GapBounds.STATE);
            CHECK.same("5 by two, 3 by three: CONFLICT of " + cs[i], Scene.conflict(g), due[i]);
        }
        Subject first = new Subject().told("most b c 3;most a b 2;most d c 1;most a d 1;most d c 0;most a d 2;");
        int[] sums = {-2, -3, -4, -5, -6};
        String[] rows = {"4 3", "2 3", "2 3", "2 3", "0 1"};
        for (int i = 0; i < sums.length; i++) {
            CHECK.due("refused", first.add(2, 0, sums[i], 0), GapBounds.STATE);
            CHECK.same("the first with a sum below: CONFLICT of " + sums[i], Scene.conflict(first), rows[i]);
        }
        Subject low = new Subject().told("most b c -9;most a b 9;most d c -1;most a d 0;");
        low.add(2, 0, 0, 0);
        CHECK.same("-9 and 9 is not below nothing", Scene.conflict(low), "2 3");
        low.add(2, 0, -1, 0);
        CHECK.same("with -1 it is", Scene.conflict(low), "0 1");
    }

    static void promise13ConflictOfBoundsThatAreThere() {
        Subject g = new Subject().told("most a b 0;most b c 0;most a c 0;");
        g.drop(2);
        CHECK.due("refused", g.add(2, 0, -1, 0), GapBounds.STATE);
        CHECK.same("what was dropped does not speak", Scene.conflict(g), "1 0");
        g.push();
        g.add(0, 2, 0, 0);
        g.pop(0);
        CHECK.due("refused", g.add(2, 0, -2, 0), GapBounds.STATE);
        CHECK.same("what was popped does not speak", Scene.conflict(g), "1 0");
        Subject full = new Subject().filled(22, 5, 6, 9);
        full.add(0, 1, 4, 0);
        full.add(1, 0, -4, 0);
        CHECK.due("the 24th speaks", full.change(22, 3), GapBounds.STATE);
        CHECK.same("CONFLICT", Scene.conflict(full), "23");
        CHECK.due("against the 24th", full.change(23, -5), GapBounds.STATE);
        CHECK.same("CONFLICT", Scene.conflict(full), "22");
    }

    static void promise13ConflictTheFirstByNumbers() {
        CHECK.words(13, "of several the first by the numbers of the BOUNDS, one by one.");
        Subject g = new Subject().told("most a b 1;most b c 1;most a b 0;most b c 0;most a d 0;most d c 0;");
        int[] cs = {-1, -2, -3};
        String[] due = {"3 2", "1 2", "1 0"};
        for (int i = 0; i < cs.length; i++) {
            CHECK.due("refused", g.add(2, 0, cs[i], 0), GapBounds.STATE);
            CHECK.same("CONFLICT of " + cs[i], Scene.conflict(g), due[i]);
        }
        g.change(1, 2);
        g.add(2, 0, -1, 0);
        CHECK.same("the first BOUND's number is ahead of the second's", Scene.conflict(g), "3 2");
        g.add(2, 0, -2, 0);
        CHECK.same("with 1 more both second ones do", Scene.conflict(g), "3 0");
        Subject twins = new Subject().told("most a b 3;most a b 3;most a b 2;");
        twins.add(1, 0, -3, 0);
        CHECK.same("two alike are not below nothing", Scene.conflict(twins), "2");
        twins.add(1, 0, -4, 0);
        CHECK.same("now they are", Scene.conflict(twins), "0");
    }

    static void promise13ConflictByTheNumbersTheyHadThen() {
        CHECK.words(13, "(They are told by the numbers they had then.)");
        Subject g = Scene.rich();
        g.drop(0);
        CHECK.same("behind drop(0)", Scene.conflict(g), "1 0");
        g.pop(0);
        CHECK.same("behind pop(0)", Scene.conflict(g), "1 0");
        g.drop(0);
        g.drop(0);
        CHECK.same("no BOUND is left", g.rule(0) + " " + Scene.conflict(g), "0 1 0");
    }

    static void promise13ConflictStaysTillOneIsRefused() {
        Subject g = Scene.rich();
        g.add(6, 7, 1, 0);
        g.add(6, 6, 1, 0);
        g.may(1, 0, -6, 0);
        g.change(0, 6);
        g.change(99, 6);
        g.shift(0, 1);
        g.whole(1);
        g.whole(0);
        g.push();
        g.keep(0);
        g.back(1);
        g.grow(7, 20);
        g.read(2, 2, 0, 1);
        CHECK.same("CONFLICT", Scene.conflict(g), "1 0");
        Subject told = Scene.rich();
        CHECK.due("a text that is refused", told.fed("?").text(), -10 - 11);
        CHECK.same("CONFLICT", Scene.conflict(told), "1 0");
    }

    static void promise14DropFrom0ToTheLast() {
        CHECK.words(14, "A BOUND goes; those behind it are numbered 1 less");
        CHECK.words(14, "how many are left. BAD.");
        for (int k : new int[] {-1, 5, 6, 24, LOWEST, HIGHEST}) {
            CHECK.refused("drop(" + k + ") of 5", Scene::rich, g -> g.drop(k), GapBounds.BAD);
        }
        CHECK.due("drop(0) of none", new Subject().drop(0), GapBounds.BAD);
        Subject first = Scene.rich();
        CHECK.due("drop(0) of 5", first.drop(0), 4);
        CHECK.same("left", Scene.now(first), "4 0 bounds 1,2,3,1 2,3,2,0 3,4,7,1 4,5,9,0 levels 2 3");
        Subject last = Scene.rich();
        CHECK.due("drop(4) of 5", last.drop(4), 4);
        CHECK.same("left", Scene.now(last), "4 0 bounds 0,1,5,0 1,2,3,1 2,3,2,0 3,4,7,1 levels 3 4");
        CHECK.due("drop(4) of 4", last.drop(4), GapBounds.BAD);
        Subject one = new Subject();
        one.add(0, 1, 5, 0);
        CHECK.due("the only one", one.drop(0), 0);
        CHECK.due("none is left", one.drop(0), GapBounds.BAD);
    }

    static void promise14DropOf24() {
        Subject g = new Subject().filled(23, 0, 1, 5);
        g.add(2, 3, 6, 1);
        CHECK.due("drop(24)", g.drop(24), GapBounds.BAD);
        CHECK.due("drop(0)", g.drop(0), 23);
        CHECK.same("the last is 1 less", g.bound(22, 0) + " " + g.bound(22, 1) + " " + g.limit(22) + " " + g.bound(22, 2),
                "2 3 6 1");
        CHECK.due("drop(23)", g.drop(23), GapBounds.BAD);
        CHECK.due("there is room", g.add(4, 5, 7, 0), 24);
        CHECK.due("drop(23)", g.drop(23), 23);
    }

    static void promise14LevelsAtMoreAre1Less() {
        CHECK.words(14, "(LEVELS at more are 1 less, too)");
        String[] due = {"0 0 1 1", "0 1 1 1", "0 1 2 1"};
        for (int k = 0; k <= 2; k++) {
            Subject g = new Subject();
            g.push();
            g.add(0, 1, 1, 0);
            g.push();
            g.add(0, 1, 2, 0);
            g.push();
            g.add(0, 1, 3, 0);
            g.drop(k);
            CHECK.same("levels at 0, 1, 2, drop(" + k + "), pop(2) answers",
                    g.level(0) + " " + g.level(1) + " " + g.level(2) + " " + g.pop(2), k < 2 ? due[k] : "0 1 2 0");
        }
        Subject all = new Subject();
        all.add(0, 1, 1, 0);
        for (int i = 0; i < 8; i++) {
            all.push();
        }
        all.drop(0);
        CHECK.dueAll("8 LEVELS at 1", new long[] {all.level(0), all.level(7), all.pop(7)}, 0, 0, 0);
    }

    static void promise14WhatSpokeAgainstItIsGone() {
        Subject g = new Subject().told("most a b 3;most a b 4;");
        CHECK.due("-4 against 3", g.add(1, 0, -4, 0), GapBounds.STATE);
        g.drop(0);
        CHECK.due("-5 against 4", g.add(1, 0, -5, 0), GapBounds.STATE);
        CHECK.due("-4 against 4", g.add(1, 0, -4, 0), 2);
    }

    static void promise15ChangeFrom0ToTheLast() {
        CHECK.words(15, "C of a BOUND becomes c: 1.");
        CHECK.words(15, "BAD");
        for (int k : new int[] {-1, 5, 24, LOWEST, HIGHEST}) {
            CHECK.refused("change(" + k + ", 1) of 5", Scene::rich, g -> g.change(k, 1), GapBounds.BAD);
        }
        CHECK.due("change(0, 1) of none", new Subject().change(0, 1), GapBounds.BAD);
        Subject g = Scene.rich();
        CHECK.due("change(0, -77)", g.change(0, -77), 1);
        CHECK.due("change(4, 77)", g.change(4, 77), 1);
        CHECK.due("change(1, 3) to what it is", g.change(1, 3), 1);
        CHECK.same("changed", Scene.now(g), "5 0 bounds 0,1,-77,0 1,2,3,1 2,3,2,0 3,4,7,1 4,5,77,0 levels 3 4");
        Subject full = Scene.full();
        CHECK.due("change(23, 1) of 24", full.change(23, 1), 1);
        CHECK.due("limit(23)", full.limit(23), 1);
        CHECK.due("change(24, 1) of 24", full.change(24, 1), GapBounds.BAD);
    }

    static void promise15ChangeTo32Bits() {
        Subject g = new Subject();
        g.add(0, 1, 5, 1);
        CHECK.dueAll("change to HIGHEST", new long[] {g.change(0, HIGHEST), g.limit(0)}, 1, HIGHEST);
        CHECK.dueAll("change to LOWEST", new long[] {g.change(0, LOWEST), g.limit(0)}, 1, LOWEST);
        g.add(1, 2, HIGHEST, 0);
        g.add(2, 0, 9, 0);
        CHECK.due("LOWEST - 1 and HIGHEST and 2 is nothing", g.change(2, 2), 1);
        CHECK.due("LOWEST - 1 and HIGHEST and 1", g.change(2, 1), GapBounds.STATE);
    }

    static void promise15ChangeAtNothing() {
        CHECK.words(15, "STATE: it can not be with the others then");
        Subject g = new Subject().told("most a b 9;most b c 2;most c a 3;");
        CHECK.due("change(0, -5)", g.change(0, -5), 1);
        CHECK.due("change(0, -6)", g.change(0, -6), GapBounds.STATE);
        CHECK.due("limit(0)", g.limit(0), -5);
        Subject strict = new Subject().told("less a b 9;most b a 2;");
        CHECK.due("less than -1", strict.change(0, -1), 1);
        CHECK.due("less than -2", strict.change(0, -2), GapBounds.STATE);
        CHECK.due("any numbers", strict.whole(0), 1);
        CHECK.due("less than -2", strict.change(0, -2), GapBounds.STATE);
        strict.change(1, 3);
        CHECK.due("less than -2", strict.change(0, -2), 1);
    }

    static void promise15ConflictByTheOthers() {
        CHECK.words(15, "(CONFLICT by the others is told then).");
        Subject g = new Subject().told("most a b 9;most b a 2;most b a 3;most b c 0;most c a 0;");
        CHECK.due("change(0, -4)", g.change(0, -4), GapBounds.STATE);
        CHECK.same("CONFLICT", Scene.conflict(g), "1");
        CHECK.due("change(0, -2)", g.change(0, -2), GapBounds.STATE);
        CHECK.same("CONFLICT of two", Scene.conflict(g), "4 3");
        CHECK.due("change(1, -99)", g.change(1, -99), GapBounds.STATE);
        CHECK.same("CONFLICT is BOUND 0", Scene.conflict(g), "0");
        Subject own = new Subject().told("most a b 9;most b a 5;");
        CHECK.due("what it was does not speak against it", own.change(0, -5), 1);
        CHECK.due("nor below", own.change(0, -6), GapBounds.STATE);
        CHECK.due("and up again", own.change(0, HIGHEST), 1);
    }

    static void promise15StateTellsConflictAndNoMore() {
        Subject g = Scene.rich();
        g.add(5, 4, -1, 0);
        CHECK.refused("change", () -> {
            Subject s = Scene.rich();
            s.add(5, 4, -1, 0);
            return s;
        }, s -> s.change(4, 0), GapBounds.STATE, "conflict", "5");
        CHECK.due("to 1 it may", g.change(4, 1), 1);
        CHECK.same("CONFLICT stays", Scene.conflict(g), "1 0");
    }

    static void promise16ShiftOfThings0To9() {
        CHECK.words(16, "THING v is to be t more: C of each BOUND of which it is x is t more, of which it is y t less: how many BOUNDS.");
        CHECK.words(16, "BAD");
        for (int no : NO_THINGS) {
            CHECK.refused("shift(" + no + ", 1)", Scene::rich, g -> g.shift(no, 1), GapBounds.BAD);
            CHECK.refused("shift(" + no + ", HIGHEST)", Scene::rich, g -> g.shift(no, HIGHEST), GapBounds.BAD);
        }
        Subject g = new Subject().told("most a j 1;less j a 2;most a b 3;most j b 4;most c d 5;");
        CHECK.due("shift(0, 10)", g.shift(0, 10), 3);
        CHECK.same("a", Scene.now(g), "5 1 bounds 0,9,11,0 9,0,-8,1 0,1,13,0 9,1,4,0 2,3,5,0 levels");
        CHECK.due("shift(9, -3)", g.shift(9, -3), 3);
        CHECK.same("j", Scene.now(g), "5 1 bounds 0,9,14,0 9,0,-11,1 0,1,13,0 9,1,1,0 2,3,5,0 levels");
        CHECK.due("shift(1, 1)", g.shift(1, 1), 2);
        CHECK.same("b", Scene.now(g), "5 1 bounds 0,9,14,0 9,0,-11,1 0,1,12,0 9,1,0,0 2,3,5,0 levels");
    }

    static void promise16ShiftOfNoBound() {
        CHECK.refused("shift(9, 1)", Scene::rich, g -> g.shift(9, 1), 0);
        CHECK.refused("shift(9, HIGHEST)", Scene::rich, g -> g.shift(9, HIGHEST), 0);
        CHECK.refused("shift(9, LOWEST)", Scene::rich, g -> g.shift(9, LOWEST), 0);
        CHECK.due("of a new object", new Subject().shift(0, 5), 0);
    }

    static void promise16ShiftBy0() {
        CHECK.refused("shift(1, 0)", Scene::rich, g -> g.shift(1, 0), 2);
    }

    static void promise16ShiftOf24() {
        Subject g = new Subject().filled(24, 0, 1, 5);
        CHECK.due("shift(0, 1)", g.shift(0, 1), 24);
        CHECK.due("shift(1, 3)", g.shift(1, 3), 24);
        CHECK.dueAll("limit", new long[] {g.limit(0), g.limit(23)}, 3, 3);
    }

    static void promise16ShiftToTheEndsOf32Bits() {
        CHECK.words(16, "OVER: one would be beyond 32 bits.");
        CHECK.words(16, "OVER -5 (beyond 32 bits)");
        int[][] tries = {{0, HIGHEST - 5, 1}, {0, HIGHEST - 4, GapBounds.OVER}, {0, LOWEST, 1}, {0, HIGHEST, GapBounds.OVER},
            {1, -(HIGHEST - 5), 1}, {1, -(HIGHEST - 4), GapBounds.OVER}, {1, HIGHEST, 1}, {1, LOWEST, GapBounds.OVER}};
        long[] due = {HIGHEST, 5, LOWEST + 5L, 5, HIGHEST, 5, 5L - HIGHEST, 5};
        for (int i = 0; i < tries.length; i++) {
            Subject g = new Subject();
            g.add(0, 1, 5, 0);
            CHECK.due("C 5, shift(" + tries[i][0] + ", " + tries[i][1] + ")", g.shift(tries[i][0], tries[i][1]), tries[i][2]);
            CHECK.due("limit(0)", g.limit(0), due[i]);
        }
        int[][] low = {{0, LOWEST + 5, 1}, {0, LOWEST + 4, GapBounds.OVER}, {1, HIGHEST - 4, 1}, {1, HIGHEST - 3, GapBounds.OVER}};
        for (int[] t : low) {
            Subject g = new Subject();
            g.add(0, 1, -5, 1);
            CHECK.due("C -5, shift(" + t[0] + ", " + t[1] + ")", g.shift(t[0], t[1]), t[2]);
            CHECK.due("limit(0)", g.limit(0), t[2] == 1 ? LOWEST : -5);
        }
        Subject ends = new Subject();
        ends.add(0, 1, HIGHEST, 0);
        CHECK.dueAll("HIGHEST", new long[] {ends.shift(0, 1), ends.shift(1, -1), ends.shift(0, HIGHEST)},
                GapBounds.OVER, GapBounds.OVER, GapBounds.OVER);
        CHECK.dueAll("to -1", new long[] {ends.shift(0, LOWEST), ends.limit(0)}, 1, -1);
        CHECK.dueAll("by y to HIGHEST", new long[] {ends.shift(1, LOWEST), ends.limit(0)}, 1, HIGHEST);
        ends.change(0, LOWEST);
        CHECK.dueAll("LOWEST", new long[] {ends.shift(0, -1), ends.shift(1, 1), ends.shift(1, LOWEST), ends.limit(0)},
                GapBounds.OVER, GapBounds.OVER, 1, 0);
        CHECK.dueAll("0 less LOWEST", new long[] {ends.shift(1, LOWEST), ends.limit(0)}, GapBounds.OVER, 0);
    }

    static void promise16OverChangesNothing() {
        for (int k = 0; k < 3; k++) {
            int over = k;
            CHECK.refused("BOUND " + k + " would be over", () -> {
                Subject g = Scene.rich().filled(3, 6, 7, 10);
                g.change(5 + over, HIGHEST);
                return g;
            }, g -> g.shift(6, 1), GapBounds.OVER);
        }
        CHECK.refused("one as x, one as y", () -> {
            Subject g = Scene.rich();
            g.add(6, 7, 0, 0);
            g.add(8, 6, LOWEST, 0);
            return g;
        }, g -> g.shift(6, 1), GapBounds.OVER);
    }

    static void promise16StrictShiftsByC() {
        Subject g = new Subject();
        g.add(0, 1, LOWEST + 1, 1);
        CHECK.dueAll("its WEIGHT may be below 32 bits", new long[] {g.shift(0, -1), g.limit(0)}, 1, LOWEST);
        CHECK.due("its C may not", g.shift(0, -1), GapBounds.OVER);
    }

    static void promise17Whole0Or1() {
        CHECK.words(17, "WHOLE becomes v: what it was. BAD");
        for (int no : NO_BITS) {
            CHECK.refused("whole(" + no + ")", Scene::rich, g -> g.whole(no), GapBounds.BAD);
        }
        Subject g = new Subject();
        CHECK.dueAll("1 to 1, to 0, to 0, to 1", new long[] {g.whole(1), g.whole(0), g.whole(0), g.whole(1), g.rule(1)},
                1, 1, 0, 0, 1);
    }

    static void promise17BoundsCanNotAllHoldThen() {
        CHECK.words(17, "STATE: BOUNDS can not all hold then.");
        int[] cs = {0, 1, 2};
        for (int c : cs) {
            Subject g = new Subject().told("real;less a b 1;");
            g.add(1, 0, c, 1);
            CHECK.due("less than 1 and less than " + c, g.whole(1), c == 0 ? GapBounds.STATE : 0);
            CHECK.due("rule(1)", g.rule(1), c == 0 ? 0 : 1);
        }
        Subject ring = new Subject().told("real;");
        for (int v = 0; v < 10; v++) {
            ring.add(v, (v + 1) % 10, 1, 1);
        }
        CHECK.due("10 of less than 1", ring.whole(1), 0);
        ring.whole(0);
        ring.change(4, 0);
        CHECK.due("9 of less than 1, less than 0", ring.whole(1), GapBounds.STATE);
        CHECK.due("whole(0) where it can not be 1", ring.whole(0), 0);
    }

    static void promise17StateChangesNothing() {
        CHECK.refused("whole(1)", () -> {
            Subject g = Scene.rich();
            g.add(6, 7, 1, 1);
            g.add(7, 6, 0, 1);
            return g;
        }, g -> g.whole(1), GapBounds.STATE);
    }

    static void promise17BoundsStayAsTheyWere() {
        Subject g = Scene.rich();
        CHECK.due("whole(1)", g.whole(1), 0);
        CHECK.same("BOUNDS", Scene.now(g), "5 1 bounds 0,1,5,0 1,2,3,1 2,3,2,0 3,4,7,1 4,5,9,0 levels 3 4");
    }
}
