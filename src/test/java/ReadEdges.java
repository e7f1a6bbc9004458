/** Promises 32 and 33: BOUNDS read from SHEETS, and what the machine refuses. */
final class ReadEdges {
    private static final Check CHECK = EdgesTest.CHECK;
    private static final int LOWEST = Integer.MIN_VALUE, HIGHEST = Integer.MAX_VALUE;

    private ReadEdges() {
    }

    /** A SHEET of 40 CELLS on a new object: 10 BOUNDS round all THINGS, C 1 each. */
    private static Subject ten() {
        Subject g = new Subject();
        int[] cells = new int[40];
        for (int i = 0; i < 10; i++) {
            cells[4 * i] = i;
            cells[4 * i + 1] = (i + 1) % 10;
            cells[4 * i + 2] = 1;
        }
        return g.laid(0, 1, cells);
    }

    static void promise32ReadOfSheetsLanesAndN() {
        CHECK.words(32, "BAD: k, lane, n");
        for (int no : new int[] {-1, 4, LOWEST, HIGHEST}) {
            CHECK.refused("read(" + no + ", 0, 0, 1)", Scene::rich, g -> g.read(no, 0, 0, 1), GapBounds.BAD);
        }
        for (int no : new int[] {-1, 3, LOWEST, HIGHEST}) {
            CHECK.refused("read(0, " + no + ", 0, 1)", Scene::rich, g -> g.read(0, no, 0, 1), GapBounds.BAD);
        }
        for (int no : new int[] {-1, 11, LOWEST, HIGHEST}) {
            CHECK.refused("read(0, 0, 0, " + no + ")", Scene::rich, g -> g.read(0, 0, 0, no), GapBounds.BAD);
            CHECK.refused("read(3, 0, 0, " + no + ")", Scene::rich, g -> g.read(3, 0, 0, no), GapBounds.BAD);
            CHECK.refused("read(0, 2, 0, " + no + ")", Scene::rich, g -> g.read(0, 2, 0, no), GapBounds.BAD);
        }
        for (int k = 0; k < 4; k++) {
            for (int lane = 0; lane < 3; lane++) {
                Subject g = new Subject().laid(k, lane, 0, 1, 2, 1);
                CHECK.due("read(" + k + ", " + lane + ", 0, 1)", g.read(k, lane, 0, 1), 1);
                CHECK.same("read", Scene.now(g), "1 1 bounds 0,1,2,1 levels");
            }
        }
    }

    static void promise32ReadN0To10() {
        CHECK.words(32, "n (0 to 10) BOUNDS (x, y, C, STRICT) are read of a SHEET taken as of a lane, four CELLS each from CELL f on, one behind another as by add(): how many came.");
        for (int n = 0; n <= 10; n++) {
            Subject g = ten();
            CHECK.due("read(0, 1, 0, " + n + ")", g.read(0, 1, 0, n), n);
            CHECK.dueAll("rule(0), torn(), the last x", new long[] {g.rule(0), g.torn(), g.bound(n - 1, 0)}, n, 0, n - 1);
        }
    }

    static void promise32ReadOfNoneFindsNoFault() {
        for (int k = 0; k < 4; k++) {
            int of = k;
            for (int f : new int[] {0, -1, 40, HIGHEST, LOWEST}) {
                CHECK.refused("read(" + k + ", 2, " + f + ", 0)", Scene::rich, g -> g.read(of, 2, f, 0), 0, "torn", "0");
            }
        }
    }

    static void promise32ReadFromCellF() {
        int[] fs = {-1, 0, 1, 35, 36, 37, 39, 40, 41, HIGHEST, HIGHEST - 3, LOWEST};
        for (int f : fs) {
            Subject g = new Subject();
            g.sheet(0, 0, 40);
            for (int i = 0; i < 40; i++) {
                g.lay(0, i, i % 2);
            }
            boolean inside = f >= 0 && f <= 36;
            CHECK.due("read(0, 0, " + f + ", 1)", g.read(0, 0, f, 1), inside ? 1 : 0);
            CHECK.dueAll("torn(), rule(0)", new long[] {g.torn(), g.rule(0)}, inside ? 0 : 2, inside ? 1 : 0);
            CHECK.due("x", g.bound(0, 0), inside ? f % 2 : GapBounds.BAD);
        }
    }

    static void promise32WhatTheMachineRefuses() {
        CHECK.words(32, "What the machine refuses: those that were whole ahead came (its FAULT is asked by torn()).");
        for (int cells = 0; cells <= 13; cells++) {
            int[] all = {0, 1, 9, 0, 1, 2, 9, 1, 2, 3, 9, 0, 3, 4, 9, 0};
            Subject g = new Subject().laid(1, 2, java.util.Arrays.copyOf(all, cells));
            CHECK.due("of " + cells + " CELLS", g.read(1, 2, 0, 3), Math.min(3, cells / 4));
            CHECK.dueAll("torn(), rule(0)", new long[] {g.torn(), g.rule(0)}, cells < 12 ? 2 : 0, Math.min(3, cells / 4));
        }
        CHECK.refused("the second is not whole", Scene::rich, g -> g.read(1, 1, 0, 2), 1,
                "now", "6 0 bounds 0,1,5,0 1,2,3,1 2,3,2,0 3,4,7,1 4,5,9,0 7,8,300,0 levels 3 4");
    }

    static void promise32NothingAndAnotherLane() {
        CHECK.words(32, "3 CAST (another lane)");
        for (int lane = 0; lane < 3; lane++) {
            int as = lane;
            CHECK.refused("nothing, as of " + lane, Scene::rich, g -> g.read(3, as, 0, 1), 0, "torn", "1");
            CHECK.refused("nothing, from -1", Scene::rich, g -> g.read(3, as, -1, 10), 0, "torn", "1");
            for (int k = 0; k < 3; k++) {
                int of = k;
                if (k != lane) {
                    CHECK.refused("SHEET " + k + " as of " + lane, Scene::rich, g -> g.read(of, as, 0, 1), 0, "torn", "3");
                    CHECK.refused("CAST is ahead of INDEX", Scene::rich, g -> g.read(of, as, 99, 1), 0, "torn", "3");
                }
            }
        }
        Subject g = new Subject().laid(0, 0);
        CHECK.dueAll("no CELLS, another lane", new long[] {g.read(0, 1, 0, 1), g.torn()}, 0, 3);
        CHECK.dueAll("no CELLS", new long[] {g.read(0, 0, 0, 1), g.torn()}, 0, 2);
    }

    static void promise32RefusedByBadNumbers() {
        CHECK.words(32, "-20 less i: the i-th, whole, is refused by add() (in any way): then none came");
        int[][] no = {{-1, 1, 5, 0}, {10, 1, 5, 0}, {0, -1, 5, 0}, {0, 10, 5, 0}, {4, 4, 5, 0}, {0, 1, 5, -1}, {0, 1, 5, 2}};
        for (int[] cells : no) {
            for (int i = 0; i < 10; i++) {
                Subject g = ten();
                g.add(7, 8, 70, 0);
                for (int j = 0; j < 4; j++) {
                    g.lay(0, 4 * i + j, cells[j]);
                }
                CHECK.due("refused at " + i, g.read(0, 1, 0, 10), -20 - i);
                CHECK.due("none came", g.rule(0), 1);
                CHECK.due("those ahead of it", g.read(0, 1, 0, i), i);
            }
        }
    }

    static void promise32RefusedByFull() {
        for (int room = 0; room <= 10; room++) {
            Subject g = ten().filled(24 - room, 0, 1, 5);
            CHECK.due("room for " + room, g.read(0, 1, 0, 10), room == 10 ? 10 : -20 - room);
            CHECK.due("rule(0)", g.rule(0), room == 10 ? 24 : 24 - room);
            CHECK.due("CONFLICT stays", g.rule(7), 0);
        }
        CHECK.refused("full", Scene::full, g -> g.read(0, 0, 0, 2), -20);
        CHECK.refused("full, the second", () -> {
            Subject g = Scene.full();
            g.drop(23);
            return g;
        }, g -> g.read(0, 0, 0, 2), -21);
    }

    static void promise32RefusedByTheOthers() {
        CHECK.words(32, "(CONFLICT is as add() tells it)");
        for (int c = -6; c <= -4; c++) {
            Subject g = new Subject().laid(2, 0, 0, 1, 3, 0, 1, 2, 2, 0, 2, 0, c, 0);
            g.add(8, 9, 1, 0);
            CHECK.due("5 and " + c, g.read(2, 0, 0, 3), c == -6 ? -22 : 3);
            CHECK.dueAll("rule(0), rule(7)", new long[] {g.rule(0), g.rule(7)}, c == -6 ? 1 : 4, c == -6 ? 2 : 0);
            if (c == -6) {
                CHECK.same("by the numbers they had then", Scene.conflict(g), "2 1");
            }
        }
        CHECK.refused("just CONFLICT changes", () -> {
            Subject g = Scene.rich();
            g.lay(2, 0, 1);
            g.lay(2, 1, 0);
            g.lay(2, 2, -6);
            return g;
        }, g -> g.read(2, 2, 0, 1), -20, "conflict", "0");
    }

    static void promise32RefusedInOtherWaysLeavesConflict() {
        CHECK.refused("x is y", () -> {
            Subject g = Scene.rich();
            g.lay(0, 5, 6);
            return g;
        }, g -> g.read(0, 0, 0, 2), -21);
    }

    static void promise32TheFirstMet() {
        CHECK.words(32, "the first met.");
        Subject refused = new Subject().laid(0, 0, 0, 1, 5, 0, 3, 3, 5, 0, 1);
        CHECK.dueAll("refused ahead of what the machine refuses", new long[] {refused.read(0, 0, 0, 3), refused.rule(0)}, -21, 0);
        Subject torn = new Subject().laid(0, 0, 0, 1, 5, 0, 3, 3, 5);
        CHECK.dueAll("not whole, so not refused", new long[] {torn.read(0, 0, 0, 2), torn.torn(), torn.rule(0)}, 1, 2, 1);
        Subject two = new Subject().laid(0, 0, 0, 1, 5, 0, 3, 3, 5, 0, 4, 4, 5, 0);
        CHECK.due("the first of two that are refused", two.read(0, 0, 0, 3), -21);
        Subject below = new Subject().laid(0, 0, 0, 1, 5, 0);
        CHECK.dueAll("from -4: the second would be whole", new long[] {below.read(0, 0, -4, 2), below.torn(), below.rule(0)}, 0, 2, 0);
        Subject full = new Subject().laid(0, 0, 0, 1, 5, 0).filled(24, 2, 3, 1);
        CHECK.dueAll("full, not whole", new long[] {full.read(0, 0, 1, 1), full.torn()}, 0, 2);
    }

    static void promise32ReadLeavesLevels() {
        Subject g = Scene.rich();
        CHECK.due("read", g.read(0, 0, 0, 2), 2);
        CHECK.same("LEVELS", Scene.now(g), "7 0 bounds 0,1,5,0 1,2,3,1 2,3,2,0 3,4,7,1 4,5,9,0 5,6,-3,0 6,7,4,1 levels 3 4");
        CHECK.due("pop(1)", g.pop(1), 3);
    }

    static void promise33TornOfTheLatestReadThatCameToAnEnd() {
        CHECK.words(33, "The FAULT of the latest read() that came to an end; 0.");
        Subject g = new Subject();
        CHECK.due("ahead of any read()", g.torn(), 0);
        g.laid(0, 1, 0, 1, 5, 0, 2, 2, 5, 0);
        int[][] reads = {{1, 1, 0, 1, 0, 1}, {0, 1, 0, 1, 1, 0}, {0, 0, 0, 1, 0, 3}, {0, 1, 4, 1, -20, 3}, {0, 1, 0, 2, -21, 3},
            {0, 1, 0, 11, -1, 3}, {4, 1, 0, 1, -1, 3}, {0, 3, 0, 1, -1, 3}, {0, 1, 8, 1, 0, 2}, {0, 1, 4, 1, -20, 2},
            {0, 1, 0, 0, 0, 0}, {0, 1, 4, 1, -20, 0}, {2, 1, 0, 1, 0, 1}};
        for (int i = 0; i < reads.length; i++) {
            int[] r = reads[i];
            CHECK.due("read " + i, g.read(r[0], r[1], r[2], r[3]), r[4]);
            CHECK.dueAll("torn() behind read " + i, new long[] {g.torn(), g.torn()}, r[5], r[5]);
        }
    }

    static void promise33OtherCallsLeaveTorn() {
        Subject g = Scene.rich();
        g.lay(3, 0, 0);
        g.lay(0, -1, 0);
        g.sheet(3, 0, -1);
        g.sheet(1, 0, 1);
        g.fed("?").text();
        g.text();
        g.keep(0);
        g.back(0);
        g.add(0, 0, 0, 0);
        CHECK.due("torn()", g.torn(), 2);
    }
}
