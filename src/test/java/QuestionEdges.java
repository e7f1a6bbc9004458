/** Promises 6 to 10: questions about BOUNDS. */
final class QuestionEdges {
    private static final Check CHECK = EdgesTest.CHECK;
    private static final int LOWEST = Integer.MIN_VALUE, HIGHEST = Integer.MAX_VALUE;
    private static final int[] NO_THINGS = {-1, 10, LOWEST, HIGHEST};

    private QuestionEdges() {
    }

    /** 24 BOUNDS of 24 pairs, C 0 to 23. */
    private static Subject pairs24() {
        Subject g = new Subject();
        for (int i = 0; i < 24; i++) {
            g.add(i % 10, (i % 10 + 1 + i / 10) % 10, i, 0);
        }
        return g;
    }

    static void promise06RuleFrom0To7() {
        CHECK.words(6, "How many: 0 BOUNDS, 1 WHOLE, 2 LEVELS,");
        CHECK.words(6, "BAD.");
        for (int what : new int[] {-1, 8, LOWEST, HIGHEST}) {
            CHECK.refused("rule(" + what + ")", Scene::rich, g -> g.rule(what), GapBounds.BAD);
        }
        Subject g = Scene.rich();
        CHECK.dueAll("rule(0) to (7)", new long[] {g.rule(0), g.rule(1), g.rule(2), g.rule(3), g.rule(4), g.rule(5),
            g.rule(6), g.rule(7)}, 5, 0, 2, 5, 5, 0, 10, 2);
    }

    static void promise06RuleOfNoneAndOf24Bounds() {
        Subject none = new Subject();
        CHECK.dueAll("none", new long[] {none.rule(0), none.rule(3), none.rule(4), none.rule(5)}, 0, 0, 0, 0);
        Subject g = pairs24();
        CHECK.dueAll("24", new long[] {g.rule(0), g.rule(3), g.rule(4)}, 24, 24, 24);
        Subject alike = new Subject().filled(24, 3, 4, -7);
        CHECK.dueAll("24 alike", new long[] {alike.rule(0), alike.rule(3), alike.rule(4), alike.rule(5)}, 24, 1, 1, 24);
    }

    static void promise06RuleOfLevels0To8() {
        Subject g = new Subject();
        for (int i = 0; i <= 8; i++) {
            CHECK.due("rule(2) of " + i, g.rule(2), i);
            g.push();
        }
        CHECK.due("rule(2) behind FULL", g.rule(2), 8);
    }

    static void promise06PairsAreByOrder() {
        CHECK.words(6, "3 pairs (y, x, by order) that have a BOUND,");
        Subject g = new Subject();
        g.add(0, 1, 5, 0);
        CHECK.due("one", g.rule(3), 1);
        g.add(1, 0, 5, 0);
        CHECK.due("the other way round is another", g.rule(3), 2);
        g.add(0, 1, 6, 1);
        CHECK.due("again the first", g.rule(3), 2);
        g.drop(0);
        CHECK.due("it still has one", g.rule(3), 2);
        g.drop(1);
        CHECK.due("it has none more", g.rule(3), 1);
    }

    static void promise06DifferentC() {
        CHECK.words(6, "4 different C of BOUNDS,");
        Subject g = new Subject();
        int[] cs = {0, HIGHEST, 0, LOWEST, HIGHEST, -1, 1, -1};
        int[] due = {1, 2, 2, 3, 3, 4, 5, 5};
        for (int i = 0; i < cs.length; i++) {
            g.add(i, 9, cs[i], i % 2);
            CHECK.due("rule(4) with " + (i + 1), g.rule(4), due[i]);
        }
        Subject strict = new Subject();
        strict.add(0, 1, 5, 1);
        strict.add(0, 1, 5, 0);
        CHECK.due("STRICT or not, C is alike", strict.rule(4), 1);
        strict.add(0, 1, 4, 0);
        CHECK.due("of alike WEIGHT, C is another", strict.rule(4), 2);
    }

    static void promise06NeedlessAtJustItsWeight() {
        CHECK.words(6, "5 BOUNDS that are NEEDLESS,");
        CHECK.words(6, "NEEDLESS is a BOUND, if without it (all others there) what is IMPLIED from its y to its x is no more than its WEIGHT.");
        for (int c = 5; c <= 7; c++) {
            Subject g = new Subject().told("most a b 5;most b c 1;");
            g.add(0, 2, c, 0);
            CHECK.due("rule(5), 6 is implied, C " + c, g.rule(5), c >= 6 ? 1 : 0);
            CHECK.dueAll("bound(k, 3)", new long[] {g.bound(0, 3), g.bound(1, 3), g.bound(2, 3)}, 0, 0, c >= 6 ? 1 : 0);
        }
        for (int c = 5; c <= 8; c++) {
            Subject g = new Subject().told("most a b 5;most b c 1;");
            g.add(0, 2, c, 1);
            CHECK.due("rule(5), 6 is implied, less than " + c, g.rule(5), c >= 7 ? 1 : 0);
            g.whole(0);
            CHECK.due("rule(5), any numbers, less than " + c, g.rule(5), c >= 7 ? 1 : 0);
        }
    }

    static void promise06NeedlessByEdges() {
        String[] rows = {"real;most a b 5;most b c 1;", "real;less a b 5;most b c 1;", "real;less a b 5;less b c 1;"};
        int[] plain = {1, 1, 1};
        int[] strict = {0, 1, 1};
        for (int i = 0; i < rows.length; i++) {
            Subject g = new Subject().told(rows[i]);
            g.add(0, 2, 6, 0);
            CHECK.due(rows[i] + " most a c 6", g.bound(2, 3), plain[i]);
            g.drop(2);
            g.add(0, 2, 6, 1);
            CHECK.due(rows[i] + " less a c 6", g.bound(2, 3), strict[i]);
            g.drop(2);
            g.add(0, 2, 5, 0);
            CHECK.due(rows[i] + " most a c 5", g.bound(2, 3), 0);
        }
    }

    static void promise06NeedlessWithAllOthersThere() {
        Subject g = new Subject().told("most a b 5;most a b 5;");
        CHECK.due("each by the other", g.rule(5), 2);
        g.drop(0);
        CHECK.due("alone", g.rule(5), 0);
        Subject ring = new Subject().told("same a b 0;same b c 0;same a c 0;");
        CHECK.due("each by the other two pairs", ring.rule(5), 6);
        Subject no = new Subject().told("most a b 5;most b a 5;");
        CHECK.due("no ROW without it", no.rule(5), 0);
    }

    static void promise06GroupsFrom10To1() {
        CHECK.words(6, "6 groups of THINGS that are FIXED to one another (one alone is one, too),");
        Subject g = new Subject();
        CHECK.due("each alone", g.rule(6), 10);
        for (int v = 1; v < 10; v++) {
            g.add(v, v - 1, v, 0);
            CHECK.due("one way just", g.rule(6), 11 - v);
            g.add(v - 1, v, 1 - v, 0);
            CHECK.due("both ways, 1 between", g.rule(6), 11 - v);
            g.change(2 * v - 1, -v);
            CHECK.due("both ways, nothing between", g.rule(6), 10 - v);
        }
        Subject ring = new Subject();
        for (int v = 0; v < 10; v++) {
            ring.add(v, (v + 1) % 10, v == 0 ? -9 : 1, 0);
        }
        CHECK.due("one CIRCLE of all", ring.rule(6), 1);
        ring.change(0, -8);
        CHECK.due("one CIRCLE of all, 1 more", ring.rule(6), 10);
        CHECK.due("two groups apart", new Subject().told("same a j 1;same c d 2;").rule(6), 8);
    }

    static void promise06BoundsOfConflict() {
        CHECK.words(6, "7 BOUNDS of CONFLICT.");
        Subject g = new Subject();
        for (int v = 1; v < 10; v++) {
            g.add(v, v - 1, 0, 0);
            CHECK.due("refused", g.add(0, v, -1, 0), GapBounds.STATE);
            CHECK.due("rule(7)", g.rule(7), v);
        }
        CHECK.due("refused", g.add(0, 1, -1, 0), GapBounds.STATE);
        CHECK.due("rule(7) is less again", g.rule(7), 1);
    }

    static void promise06QuestionsChangeNothing() {
        CHECK.refused("questions", Scene::rich, g -> g.rule(5) + g.rule(6) + g.bound(0, 3) + g.limit(0) + g.tightest(0, 1)
                + g.pair(0) + g.conflict(0) + g.level(0) + g.implied(0, 2, 0) + g.fixed(0, 1) + g.high(0, 0)
                + g.reach(0, 2, 4, 0) + g.room(2, 0, 0) + g.ways(5, 6) * 0 + g.count(0) + g.fault() + g.torn(),
                0 + 10 + 0 + 5 + 0 + 1 + 1 + 3 + 8 + 0 + 0 + 12 - 8 + 0 + 2 + 2 + 2);
    }

    static void promise07BoundFrom0ToTheLast() {
        CHECK.words(7, "Of a BOUND: 0 its x, 1 its y, 2 whether it is STRICT (1, 0), 3 whether it is NEEDLESS,");
        CHECK.words(7, "BAD.");
        for (int what = 0; what <= 4; what++) {
            int of = what;
            for (int k : new int[] {-1, 5, 6, 24, LOWEST, HIGHEST}) {
                CHECK.refused("bound(" + k + ", " + of + ") of 5", Scene::rich, g -> g.bound(k, of), GapBounds.BAD);
            }
        }
        Subject g = Scene.rich();
        CHECK.dueAll("bound(0, 0 to 4)", new long[] {g.bound(0, 0), g.bound(0, 1), g.bound(0, 2), g.bound(0, 3),
            g.bound(0, 4)}, 0, 1, 0, 0, 1);
        CHECK.dueAll("bound(4, 0 to 4)", new long[] {g.bound(4, 0), g.bound(4, 1), g.bound(4, 2), g.bound(4, 3),
            g.bound(4, 4)}, 4, 5, 0, 0, 1);
        CHECK.dueAll("bound(3, 0 to 4)", new long[] {g.bound(3, 0), g.bound(3, 1), g.bound(3, 2), g.bound(3, 3),
            g.bound(3, 4)}, 3, 4, 1, 0, 1);
    }

    static void promise07BoundWhatFrom0To4() {
        for (int what : new int[] {-1, 5, LOWEST, HIGHEST}) {
            CHECK.refused("bound(0, " + what + ")", Scene::rich, g -> g.bound(0, what), GapBounds.BAD);
            CHECK.refused("bound(5, " + what + ")", Scene::rich, g -> g.bound(5, what), GapBounds.BAD);
        }
    }

    static void promise07BoundOfNoneAndOf24() {
        CHECK.due("bound(0, 0) of none", new Subject().bound(0, 0), GapBounds.BAD);
        Subject g = pairs24();
        CHECK.dueAll("bound(23, 0), (23, 1)", new long[] {g.bound(23, 0), g.bound(23, 1)}, 3, 6);
        CHECK.due("bound(24, 0)", g.bound(24, 0), GapBounds.BAD);
        g.drop(0);
        CHECK.due("bound(23, 0) of 23", g.bound(23, 0), GapBounds.BAD);
        CHECK.due("bound(22, 0) of 23", g.bound(22, 0), 3);
    }

    static void promise07HowManyOfItsPair() {
        CHECK.words(7, "4 how many BOUNDS of its pair there are, it too.");
        Subject g = new Subject();
        g.add(1, 0, 5, 0);
        CHECK.due("alone", g.bound(0, 4), 1);
        g.add(0, 1, 5, 0);
        CHECK.due("the other way round is another pair", g.bound(0, 4), 1);
        g.add(1, 2, 5, 0);
        g.add(2, 0, 5, 0);
        CHECK.due("one alike is not enough", g.bound(0, 4), 1);
        for (int i = 0; i < 20; i++) {
            g.add(1, 0, i, i % 2);
            CHECK.due("with " + (i + 1) + " more", g.bound(0, 4), i + 2);
        }
        CHECK.dueAll("24 BOUNDS", new long[] {g.bound(23, 4), g.bound(1, 4), g.rule(0)}, 21, 1, 24);
    }

    static void promise08LimitOfABound() {
        CHECK.words(8, "C of a BOUND.");
        CHECK.words(8, "(C any number of 32 bits; x is not y).");
        int[] cs = {LOWEST, LOWEST + 1, -1, 0, 1, HIGHEST - 1, HIGHEST};
        Subject g = new Subject();
        for (int i = 0; i < cs.length; i++) {
            g.add(i, 9, cs[i], i % 2);
            g.add(i, 8, cs[i], 1 - i % 2);
        }
        for (int i = 0; i < cs.length; i++) {
            CHECK.due("limit, STRICT or not", g.limit(2 * i), cs[i]);
            CHECK.due("limit, STRICT or not", g.limit(2 * i + 1), cs[i]);
        }
        g.whole(0);
        CHECK.due("limit with any numbers", g.limit(1), LOWEST);
    }

    static void promise08LimitOfNoBoundIsNothing() {
        CHECK.words(8, "NOTHING: there is no such BOUND.");
        CHECK.words(8, "The constants: `NOTHING = 1000000000000L`: What tells that there is none where a number may be any.");
        CHECK.due("NOTHING", GapBounds.NOTHING, 1000000000000L);
        for (int k : new int[] {-1, 5, 24, LOWEST, HIGHEST}) {
            CHECK.refused("limit(" + k + ") of 5", Scene::rich, g -> g.limit(k), GapBounds.NOTHING);
        }
        CHECK.due("limit(4) of 5", Scene.rich().limit(4), 9);
        CHECK.due("limit(0) of none", new Subject().limit(0), GapBounds.NOTHING);
        Subject g = pairs24();
        CHECK.dueAll("24", new long[] {g.limit(0), g.limit(23), g.limit(24)}, 0, 23, GapBounds.NOTHING);
    }

    static void promise09TightestOfThings0To9() {
        CHECK.words(9, "BAD (also x is y)");
        for (int no : NO_THINGS) {
            CHECK.refused("tightest(" + no + ", 0)", Scene::rich, g -> g.tightest(no, 0), GapBounds.BAD);
            CHECK.refused("tightest(0, " + no + ")", Scene::rich, g -> g.tightest(0, no), GapBounds.BAD);
        }
        for (int v : new int[] {0, 5, 9}) {
            CHECK.refused("tightest(" + v + ", " + v + ")", Scene::rich, g -> g.tightest(v, v), GapBounds.BAD);
        }
        Subject g = new Subject();
        g.add(0, 9, 1, 0);
        g.add(9, 0, 1, 0);
        CHECK.dueAll("0 and 9", new long[] {g.tightest(0, 9), g.tightest(9, 0)}, 0, 1);
    }

    static void promise09TightestOfNoBound() {
        CHECK.words(9, "NONE.");
        CHECK.due("none at all", new Subject().tightest(0, 1), GapBounds.NONE);
        Subject g = new Subject().told("most a b 1;most b c 1;");
        CHECK.due("the other way round", g.tightest(1, 0), GapBounds.NONE);
        CHECK.due("a ROW is no BOUND", g.tightest(0, 2), GapBounds.NONE);
    }

    static void promise09TightestOfSeveralTheFirst() {
        CHECK.words(9, "The BOUND of least WEIGHT from y to x, of several the first.");
        CHECK.words(9, "WEIGHT of a BOUND: with WHOLE 1 C, 1 less if it is STRICT");
        Subject g = new Subject().told("most a b 6;most a b 5;most a b 5;less a b 6;less a b 6;");
        CHECK.due("5, 5, less than 6", g.tightest(0, 1), 1);
        g.drop(1);
        g.drop(1);
        CHECK.due("6, less than 6 twice", g.tightest(0, 1), 1);
        g.add(0, 1, 5, 0);
        CHECK.due("of alike WEIGHT the first", g.tightest(0, 1), 1);
        g.add(0, 1, 5, 1);
        CHECK.due("less than 5", g.tightest(0, 1), 4);
    }

    static void promise09TightestByEdges() {
        CHECK.words(9, "with WHOLE 0 a pair, C and one EDGE if it is STRICT.");
        CHECK.words(9, "the lesser of two is that of lesser C, of alike C that of more EDGES");
        Subject g = new Subject().told("real;most a b 6;less a b 6;less a b 6;most a b 6;");
        CHECK.due("the first STRICT one", g.tightest(0, 1), 1);
        g.add(0, 1, 5, 0);
        CHECK.due("lesser C ahead of EDGES", g.tightest(0, 1), 4);
        g.add(0, 1, 5, 1);
        CHECK.due("alike C, an EDGE", g.tightest(0, 1), 5);
    }

    static void promise09TightestAtTheEndsOf32Bits() {
        Subject g = new Subject();
        g.add(0, 1, HIGHEST, 0);
        g.add(0, 1, LOWEST + 1, 1);
        g.add(0, 1, LOWEST, 0);
        CHECK.due("less than LOWEST + 1 is LOWEST", g.tightest(0, 1), 1);
        g.add(0, 1, LOWEST, 1);
        CHECK.due("less than LOWEST", g.tightest(0, 1), 3);
        g.whole(0);
        CHECK.due("with any numbers", g.tightest(0, 1), 3);
        g.drop(3);
        CHECK.due("LOWEST is less than LOWEST + 1", g.tightest(0, 1), 2);
    }

    static void promise10PairFrom0On() {
        CHECK.words(10, "BAD: i below 0; NONE: there are not so many.");
        CHECK.words(10, "NONE -4 (there is none)");
        for (int i : new int[] {-1, LOWEST}) {
            CHECK.refused("pair(" + i + ")", Scene::rich, g -> g.pair(i), GapBounds.BAD);
            CHECK.due("pair(" + i + ") of none", new Subject().pair(i), GapBounds.BAD);
        }
        for (int i : new int[] {5, 6, 24, HIGHEST}) {
            CHECK.refused("pair(" + i + ") of 5", Scene::rich, g -> g.pair(i), GapBounds.NONE);
        }
        CHECK.due("pair(0) of none", new Subject().pair(0), GapBounds.NONE);
        Subject g = Scene.rich();
        CHECK.dueAll("pair(0), pair(4) of 5", new long[] {g.pair(0), g.pair(4)}, 1, 45);
    }

    static void promise10TenTimesXAndY() {
        CHECK.words(10, "Of pairs that have a BOUND, in the order in which the first BOUND of each came, the i-th (0 on): 10 times its x, and its y.");
        Subject g = new Subject().told("most j a 1;most a j 1;most j i 1;most a b 1;most b a 1;most j a 0;");
        CHECK.dueAll("pair(0) to (5)", new long[] {g.pair(0), g.pair(1), g.pair(2), g.pair(3), g.pair(4), g.pair(5)},
                90, 9, 98, 1, 10, GapBounds.NONE);
        Subject most = pairs24();
        CHECK.dueAll("24 pairs", new long[] {most.pair(0), most.pair(23), most.pair(24)}, 1, 36, GapBounds.NONE);
    }

    static void promise10OrderOfTheFirstBoundOfEach() {
        Subject g = new Subject().told("most a b 9;most c d 9;most a b 1;most e f 9;");
        CHECK.dueAll("pair", new long[] {g.pair(0), g.pair(1), g.pair(2), g.pair(3)}, 1, 23, 45, GapBounds.NONE);
        g.drop(0);
        CHECK.dueAll("the first of a, b is another", new long[] {g.pair(0), g.pair(1), g.pair(2), g.pair(3)},
                23, 1, 45, GapBounds.NONE);
        g.drop(1);
        CHECK.dueAll("a, b has none", new long[] {g.pair(0), g.pair(1), g.pair(2)}, 23, 45, GapBounds.NONE);
    }
}
