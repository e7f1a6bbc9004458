/** Promises 21 to 26: what is IMPLIED, and ways. */
final class ImpliedEdges {
    private static final Check CHECK = EdgesTest.CHECK;
    private static final long NOTHING = GapBounds.NOTHING;
    private static final int LOWEST = Integer.MIN_VALUE, HIGHEST = Integer.MAX_VALUE;
    private static final int[] NO_THINGS = {-1, 10, LOWEST, HIGHEST};

    private ImpliedEdges() {
    }

    /** a to j one behind another, 9 BOUNDS alike. */
    private static Subject chain(int c, int strict) {
        Subject g = new Subject();
        for (int v = 0; v < 9; v++) {
            g.add(v, v + 1, c, strict);
        }
        return g;
    }

    static void promise21ImpliedOfThings0To9() {
        CHECK.words(21, "BAD.");
        for (int no : NO_THINGS) {
            for (int what = 0; what < 2; what++) {
                int of = what;
                CHECK.refused("implied(" + no + ", 0)", Scene::rich, g -> g.implied(no, 0, of), GapBounds.BAD);
                CHECK.refused("implied(0, " + no + ")", Scene::rich, g -> g.implied(0, no, of), GapBounds.BAD);
                CHECK.refused("implied(" + no + ", " + no + ")", Scene::rich, g -> g.implied(no, no, of), GapBounds.BAD);
            }
        }
        for (int what : new int[] {-1, 2, LOWEST, HIGHEST}) {
            CHECK.refused("implied(0, 1, " + what + ")", Scene::rich, g -> g.implied(0, 1, what), GapBounds.BAD);
            CHECK.refused("implied(1, 0, " + what + ")", Scene::rich, g -> g.implied(1, 0, what), GapBounds.BAD);
        }
        Subject g = chain(1, 0);
        CHECK.dueAll("0 and 9", new long[] {g.implied(0, 9, 0), g.implied(9, 0, 0)}, 9, NOTHING);
    }

    static void promise21ImpliedNone() {
        CHECK.words(21, "IMPLIED from y to x: C (what 0), EDGES (1). NOTHING: none.");
        CHECK.words(21, "IMPLIED from y to x: the least WEIGHT of ROWS from y to x (none, if there is none");
        Subject g = Scene.rich();
        CHECK.dueAll("a from c", new long[] {g.implied(0, 2, 0), g.implied(0, 2, 1)}, 8, 1);
        CHECK.dueAll("c from a", new long[] {g.implied(2, 0, 0), g.implied(2, 0, 1)}, NOTHING, NOTHING);
        CHECK.dueAll("j from i", new long[] {g.implied(9, 8, 0), g.implied(9, 8, 1)}, NOTHING, NOTHING);
    }

    static void promise21ImpliedToItself() {
        CHECK.words(21, "of y to itself nothing).");
        Subject g = new Subject().told("real;less a b 5;most b a 5;");
        for (int v : new int[] {0, 1, 2, 9}) {
            CHECK.dueAll("of " + v, new long[] {g.implied(v, v, 0), g.implied(v, v, 1)}, 0, 0);
        }
    }

    static void promise21ImpliedLeast() {
        CHECK.words(21, "A BOUND leads from y to x. A ROW of BOUNDS: each leads from where the one ahead leads to; its WEIGHT is theirs, summed.");
        for (int c = 4; c <= 6; c++) {
            Subject g = new Subject().told("most a b 3;most b c 2;");
            g.add(0, 2, c, 0);
            CHECK.due("5 by the ROW, " + c, g.implied(0, 2, 0), Math.min(c, 5));
            g.add(0, 2, c, 1);
            CHECK.due("and less than " + c, g.implied(0, 2, 0), Math.min(c - 1, 5));
        }
        Subject g = new Subject().told("real;most a b 3;less b c 2;most a c 5;");
        CHECK.dueAll("of alike C more EDGES", new long[] {g.implied(0, 2, 0), g.implied(0, 2, 1)}, 5, 1);
        g.change(2, 4);
        CHECK.dueAll("lesser C", new long[] {g.implied(0, 2, 0), g.implied(0, 2, 1)}, 4, 0);
    }

    static void promise21ImpliedBeyond32Bits() {
        Subject low = chain(LOWEST, 1);
        CHECK.due("whole: 9 of less than LOWEST", low.implied(0, 9, 0), 9L * LOWEST - 9);
        CHECK.due("EDGES", low.implied(0, 9, 1), 0);
        low.whole(0);
        CHECK.dueAll("any", new long[] {low.implied(0, 9, 0), low.implied(0, 9, 1)}, 9L * LOWEST, 9);
        Subject high = chain(HIGHEST, 0);
        CHECK.due("9 of HIGHEST", high.implied(0, 9, 0), 9L * HIGHEST);
        CHECK.due("2 of HIGHEST", high.implied(3, 5, 0), 2L * HIGHEST);
    }

    static void promise21NoEdgesWithWholeNumbers() {
        CHECK.words(21, "(With WHOLE 1 there are no EDGES.)");
        Subject g = chain(0, 1);
        CHECK.dueAll("whole", new long[] {g.implied(0, 9, 0), g.implied(0, 9, 1), g.implied(0, 1, 1)}, -9, 0, 0);
        g.whole(0);
        CHECK.dueAll("any", new long[] {g.implied(0, 9, 0), g.implied(0, 9, 1), g.implied(0, 1, 1)}, 0, 9, 1);
    }

    static void promise22FixedOfThings0To9() {
        CHECK.words(22, "BAD.");
        for (int no : NO_THINGS) {
            CHECK.refused("fixed(" + no + ", 0)", Scene::rich, g -> g.fixed(no, 0), GapBounds.BAD);
            CHECK.refused("fixed(0, " + no + ")", Scene::rich, g -> g.fixed(0, no), GapBounds.BAD);
            CHECK.refused("fixed(" + no + ", " + no + ")", Scene::rich, g -> g.fixed(no, no), GapBounds.BAD);
        }
        Subject g = new Subject().told("same a j 3;");
        CHECK.dueAll("0 and 9", new long[] {g.fixed(0, 9), g.fixed(9, 0)}, 1, 1);
    }

    static void promise22FixedToItself() {
        CHECK.words(22, "Whether two THINGS are FIXED to one another (1, 0; one to itself: 1).");
        Subject g = new Subject();
        for (int v = 0; v < 10; v++) {
            CHECK.due("fixed(" + v + ", " + v + ")", g.fixed(v, v), 1);
        }
        CHECK.due("fixed(0, 1)", g.fixed(0, 1), 0);
    }

    static void promise22FixedAtNothing() {
        CHECK.words(22, "FIXED are two THINGS, if what is IMPLIED from the one to the other and back is nothing, summed.");
        for (int c = 0; c <= 2; c++) {
            Subject g = new Subject().told("most a b -5;");
            g.add(1, 0, 5 + c, 0);
            CHECK.dueAll("-5 and " + (5 + c), new long[] {g.fixed(0, 1), g.fixed(1, 0)}, c == 0 ? 1 : 0, c == 0 ? 1 : 0);
        }
        Subject strict = new Subject().told("less a b -4;most b a 5;");
        CHECK.due("whole: less than -4 and 5", strict.fixed(0, 1), 1);
        strict.whole(0);
        CHECK.due("any: less than -4 and 5", strict.fixed(0, 1), 0);
        Subject one = new Subject().told("most a b 0;");
        CHECK.dueAll("one way just", new long[] {one.fixed(0, 1), one.fixed(1, 0)}, 0, 0);
        Subject long32 = new Subject();
        long32.add(0, 1, HIGHEST, 0);
        long32.add(1, 2, 1, 0);
        long32.add(2, 0, LOWEST, 0);
        CHECK.due("HIGHEST, 1, LOWEST", long32.fixed(0, 2), 1);
        Subject far = new Subject();
        far.add(0, 1, HIGHEST, 0);
        far.add(1, 2, HIGHEST, 0);
        far.add(2, 0, 2, 0);
        CHECK.due("twice HIGHEST and 2 is not nothing", far.fixed(0, 2), 0);
    }

    static void promise23HighOfThings0To9() {
        CHECK.words(23, "BAD.");
        for (int no : NO_THINGS) {
            CHECK.refused("high(" + no + ", 0)", Scene::rich, g -> g.high(no, 0), GapBounds.BAD);
            CHECK.refused("high(" + no + ", 1)", Scene::rich, g -> g.high(no, 1), GapBounds.BAD);
        }
        for (int what : new int[] {-1, 2, LOWEST, HIGHEST}) {
            CHECK.refused("high(0, " + what + ")", Scene::rich, g -> g.high(0, what), GapBounds.BAD);
        }
        Subject g = new Subject().told("most a b -1;most j i -2;");
        CHECK.dueAll("0 and 9", new long[] {g.high(0, 0), g.high(9, 0)}, -1, -2);
    }

    static void promise23HighIsNeverAbove0() {
        CHECK.words(23, "HIGH of a THING: C (what 0), EDGES (1).");
        CHECK.words(23, "HIGH of a THING: the least WEIGHT of nothing and of all ROWS to it: so none is above 0, and all BOUNDS hold.");
        for (int c = -1; c <= 1; c++) {
            Subject g = new Subject();
            g.add(0, 1, c, 0);
            CHECK.dueAll("C " + c, new long[] {g.high(0, 0), g.high(1, 0)}, Math.min(c, 0), 0);
        }
        Subject strict = new Subject().told("less a b 0;");
        CHECK.dueAll("whole", new long[] {strict.high(0, 0), strict.high(0, 1)}, -1, 0);
        strict.whole(0);
        CHECK.dueAll("any", new long[] {strict.high(0, 0), strict.high(0, 1)}, 0, 1);
        strict.change(0, 1);
        CHECK.dueAll("less than 1 is above nothing", new long[] {strict.high(0, 0), strict.high(0, 1)}, 0, 0);
    }

    static void promise23HighOfAllRows() {
        Subject g = new Subject().told("most a b -1;most b c -1;most a d -3;");
        CHECK.due("the least", g.high(0, 0), -3);
        g.change(2, -1);
        CHECK.due("the least", g.high(0, 0), -2);
        g.change(1, 5);
        CHECK.due("a part of a ROW is a ROW", g.high(0, 0), -1);
        Subject low = chain(LOWEST, 1);
        CHECK.dueAll("beyond 32 bits", new long[] {low.high(0, 0), low.high(0, 1), low.high(8, 0), low.high(9, 0)},
                9L * LOWEST - 9, 0, LOWEST - 1L, 0);
        low.whole(0);
        CHECK.dueAll("any", new long[] {low.high(0, 0), low.high(0, 1)}, 9L * LOWEST, 9);
        CHECK.dueAll("none at all", new long[] {new Subject().high(0, 0), new Subject().high(9, 1)}, 0, 0);
    }

    static void promise24ReachOfThings0To9() {
        CHECK.words(24, "BAD.");
        for (int no : NO_THINGS) {
            for (int what = 0; what < 4; what++) {
                int of = what;
                CHECK.refused("reach(" + no + ", 0)", Scene::rich, g -> g.reach(no, 0, 1, of), GapBounds.BAD);
                CHECK.refused("reach(0, " + no + ")", Scene::rich, g -> g.reach(0, no, 1, of), GapBounds.BAD);
                CHECK.refused("reach(" + no + ", " + no + ")", Scene::rich, g -> g.reach(no, no, 1, of), GapBounds.BAD);
            }
        }
        for (int what : new int[] {-1, 4, LOWEST, HIGHEST}) {
            CHECK.refused("reach(0, 1, 1, " + what + ")", Scene::rich, g -> g.reach(0, 1, 1, what), GapBounds.BAD);
            CHECK.refused("reach(1, 0, 1, " + what + ")", Scene::rich, g -> g.reach(1, 0, 1, what), GapBounds.BAD);
        }
        Subject g = new Subject().told("same a j 3;");
        CHECK.dueAll("0 and 9", new long[] {g.reach(0, 9, 10, 0), g.reach(9, 0, 10, 0)}, 13, 7);
    }

    static void promise24ReachEachEnd() {
        CHECK.words(24, "With THING o at t (any number of 32 bits): C of the greatest (what 0), the least (1) that THING v can be; how many EDGES it is below, above that (2, 3).");
        CHECK.words(24, "NOTHING: it has no end there.");
        Subject g = new Subject().told("real;less a b 5;less c a 2;");
        CHECK.dueAll("a by b", new long[] {g.reach(0, 1, 10, 0), g.reach(0, 1, 10, 1), g.reach(0, 1, 10, 2),
            g.reach(0, 1, 10, 3)}, 15, NOTHING, 1, NOTHING);
        CHECK.dueAll("b by a", new long[] {g.reach(1, 0, 10, 0), g.reach(1, 0, 10, 1), g.reach(1, 0, 10, 2),
            g.reach(1, 0, 10, 3)}, NOTHING, 5, NOTHING, 1);
        CHECK.dueAll("b by c", new long[] {g.reach(1, 2, 10, 0), g.reach(1, 2, 10, 1), g.reach(1, 2, 10, 2),
            g.reach(1, 2, 10, 3)}, NOTHING, 3, NOTHING, 2);
        CHECK.dueAll("d by a", new long[] {g.reach(3, 0, 10, 0), g.reach(3, 0, 10, 1), g.reach(3, 0, 10, 2),
            g.reach(3, 0, 10, 3)}, NOTHING, NOTHING, NOTHING, NOTHING);
        g.whole(1);
        CHECK.dueAll("whole: a by b", new long[] {g.reach(0, 1, 10, 0), g.reach(0, 1, 10, 2)}, 14, 0);
        CHECK.dueAll("whole: b by c", new long[] {g.reach(1, 2, 10, 1), g.reach(1, 2, 10, 3)}, 5, 0);
    }

    static void promise24ReachByItself() {
        Subject g = new Subject().told("real;less a b 5;");
        for (int t : new int[] {LOWEST, -1, 0, 1, HIGHEST}) {
            CHECK.dueAll("a by a", new long[] {g.reach(0, 0, t, 0), g.reach(0, 0, t, 1), g.reach(0, 0, t, 2),
                g.reach(0, 0, t, 3)}, t, t, 0, 0);
        }
    }

    static void promise24ReachBeyond32Bits() {
        Subject g = new Subject();
        g.add(0, 1, HIGHEST, 0);
        g.add(1, 0, HIGHEST, 0);
        CHECK.dueAll("t at the ends", new long[] {g.reach(0, 1, HIGHEST, 0), g.reach(0, 1, HIGHEST, 1),
            g.reach(0, 1, LOWEST, 0), g.reach(0, 1, LOWEST, 1)}, 2L * HIGHEST, 0, -1, (long) LOWEST - HIGHEST);
        Subject low = chain(LOWEST, 1);
        CHECK.due("9 of less than LOWEST, down", low.reach(0, 9, LOWEST, 0), 10L * LOWEST - 9);
        CHECK.due("9 of less than LOWEST, up", low.reach(9, 0, HIGHEST, 1), HIGHEST - 9L * LOWEST + 9);
    }

    static void promise25RoomOfThings0To9() {
        CHECK.words(25, "BAD (also x is y).");
        for (int no : NO_THINGS) {
            for (int what = 0; what < 2; what++) {
                int of = what;
                CHECK.refused("room(" + no + ", 0)", Scene::rich, g -> g.room(no, 0, of), GapBounds.BAD);
                CHECK.refused("room(0, " + no + ")", Scene::rich, g -> g.room(0, no, of), GapBounds.BAD);
            }
        }
        for (int v : new int[] {0, 4, 9}) {
            CHECK.refused("room(" + v + ", " + v + ", 0)", Scene::rich, g -> g.room(v, v, 0), GapBounds.BAD);
            CHECK.refused("room(" + v + ", " + v + ", 1)", Scene::rich, g -> g.room(v, v, 1), GapBounds.BAD);
        }
        for (int what : new int[] {-1, 2, LOWEST, HIGHEST}) {
            CHECK.refused("room(1, 0, " + what + ")", Scene::rich, g -> g.room(1, 0, what), GapBounds.BAD);
            CHECK.refused("room(0, 1, " + what + ")", Scene::rich, g -> g.room(0, 1, what), GapBounds.BAD);
        }
        Subject g = new Subject().told("most a j 3;most j a 4;");
        CHECK.dueAll("0 and 9", new long[] {g.room(0, 9, 0), g.room(9, 0, 0)}, -4, -3);
    }

    static void promise25RoomIsWhereAddTurns() {
        CHECK.words(25, "The least C with which a BOUND of x, y, not STRICT, could come: C (what 0)");
        CHECK.words(25, "whether with just that C it could not, but with any more (1; 1, 0; with WHOLE 1 always 0).");
        String[] texts = {"most a b 3;most b c 2;", "less a b 3;most b c 2;", "real;most a b 3;most b c 2;",
            "real;less a b 3;most b c 2;", "real;less a b 3;less b c 2;"};
        long[] due = {-5, -4, -5, -5, -5};
        long[] open = {0, 0, 0, 1, 1};
        for (int i = 0; i < texts.length; i++) {
            Subject g = new Subject().told(texts[i]);
            CHECK.dueAll(texts[i], new long[] {g.room(2, 0, 0), g.room(2, 0, 1)}, due[i], open[i]);
            int c = (int) due[i];
            CHECK.dueAll("one less, just it, one more", new long[] {g.may(2, 0, c - 1, 0), g.may(2, 0, c, 0), g.may(2, 0, c + 1, 0)},
                    0, 1 - open[i], 1);
        }
    }

    static void promise25RoomWithoutEnd() {
        CHECK.words(25, "NOTHING: there is no such end.");
        for (String text : new String[] {"most a b 3;", "real;less a b 3;"}) {
            Subject g = new Subject().told(text);
            CHECK.dueAll(text + " a by b", new long[] {g.room(0, 1, 0), g.room(0, 1, 1)}, NOTHING, NOTHING);
            CHECK.dueAll(text + " c by d", new long[] {g.room(2, 3, 0), g.room(2, 3, 1)}, NOTHING, NOTHING);
        }
    }

    static void promise25RoomBeyond32Bits() {
        Subject low = chain(LOWEST, 1);
        CHECK.dueAll("9 of less than LOWEST", new long[] {low.room(9, 0, 0), low.room(9, 0, 1), low.may(9, 0, HIGHEST, 0)},
                9 - 9L * LOWEST, 0, 0);
        low.whole(0);
        CHECK.dueAll("any", new long[] {low.room(9, 0, 0), low.room(9, 0, 1), low.room(1, 0, 0)}, -9L * LOWEST, 1, 1L << 31);
        Subject high = chain(HIGHEST, 0);
        CHECK.dueAll("9 of HIGHEST", new long[] {high.room(9, 0, 0), high.may(9, 0, LOWEST, 1)}, -9L * HIGHEST, 1);
    }

    static void promise26WaysOf1To5Things() {
        CHECK.words(26, "In how many ways THINGS 0 to n less 1 (n 1 to 5) can be whole numbers 0 to m (0 to 6) by BOUNDS between them.");
        CHECK.words(26, "BAD.");
        for (int n : new int[] {0, 6, -1, LOWEST, HIGHEST}) {
            CHECK.refused("ways(" + n + ", 3)", Scene::rich, g -> g.ways(n, 3), GapBounds.BAD);
        }
        for (int m : new int[] {-1, 7, LOWEST, HIGHEST}) {
            CHECK.refused("ways(2, " + m + ")", Scene::rich, g -> g.ways(2, m), GapBounds.BAD);
        }
        CHECK.refused("ways(0, 7)", Scene::rich, g -> g.ways(0, 7), GapBounds.BAD);
        Subject g = new Subject();
        for (int n = 1; n <= 5; n++) {
            int due = 1;
            for (int i = 0; i < n; i++) {
                due *= 7;
            }
            CHECK.dueAll("ways(" + n + ", 0), (.., 6)", new long[] {g.ways(n, 0), g.ways(n, 6)}, 1, due);
            CHECK.due("ways(" + n + ", 1)", g.ways(n, 1), 1 << n);
        }
    }

    static void promise26WaysByBoundsBetweenThem() {
        Subject g = new Subject().told("most a e -1;most e f -9;most g a -9;");
        CHECK.dueAll("e is the fifth", new long[] {g.ways(4, 6), g.ways(5, 6)}, 2401, 21 * 343);
        Subject outside = new Subject().told("most a f 0;most f b -9;");
        CHECK.due("what others imply is not between them", outside.ways(5, 6), 16807);
    }

    static void promise26WaysAtC() {
        int[] due = {0, 1, 3, 6, 10, 15, 21, 28, 34, 39, 43, 46, 48, 49, 49};
        for (int c = -7; c <= 7; c++) {
            Subject g = new Subject();
            g.add(0, 1, c, 0);
            CHECK.due("a - b <= " + c, g.ways(2, 6), due[c + 7]);
            g.drop(0);
            g.add(1, 0, c, 0);
            CHECK.due("b - a <= " + c, g.ways(2, 6), due[c + 7]);
            g.drop(0);
            g.add(1, 0, c, 1);
            CHECK.due("b - a < " + c, g.ways(2, 6), c == -7 ? 0 : due[c + 6]);
            g.whole(0);
            CHECK.due("whole numbers also with WHOLE 0", g.ways(2, 6), c == -7 ? 0 : due[c + 6]);
        }
    }

    static void promise26WaysAtTheEndsOf32Bits() {
        for (int strict = 0; strict < 2; strict++) {
            Subject g = new Subject();
            g.add(0, 1, LOWEST, strict);
            CHECK.due("LOWEST", g.ways(2, 6), 0);
            g.drop(0);
            g.add(1, 0, LOWEST, strict);
            CHECK.due("LOWEST, the other way", g.ways(2, 6), 0);
            g.change(0, HIGHEST);
            CHECK.due("HIGHEST, the other way", g.ways(2, 6), 49);
            g.drop(0);
            g.add(0, 1, HIGHEST, strict);
            CHECK.due("HIGHEST", g.ways(2, 6), 49);
        }
    }

    static void promise26WaysOfNoneAndOf24Bounds() {
        Subject g = new Subject().filled(23, 0, 1, 6);
        g.add(0, 1, -1, 0);
        CHECK.due("the 24th counts", g.ways(2, 6), 21);
        g.drop(23);
        CHECK.due("what went does not", g.ways(2, 6), 49);
        g.push();
        g.add(1, 0, -1, 0);
        g.pop(0);
        CHECK.due("what went does not", g.ways(2, 6), 49);
    }

    static void promise26WaysWithWhole0MayBeNone() {
        Subject g = new Subject().told("real;less a b 1;less b a 0;");
        CHECK.due("between two whole numbers", g.ways(2, 6), 0);
        CHECK.due("a alone", g.ways(1, 6), 7);
    }
}
