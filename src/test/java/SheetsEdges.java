/** Promises 28 to 34: IMAGES, SHEETS, count. */
final class SheetsEdges {
    private static final Check CHECK = EdgesTest.CHECK;
    private static final int LOWEST = Integer.MIN_VALUE, HIGHEST = Integer.MAX_VALUE;
    private static final int[] NO_IMAGES = {-1, 2, LOWEST, HIGHEST};
    private static final int[] NO_SHEETS = {-1, 4, LOWEST, HIGHEST};
    private static final int[] NO_LANES = {-1, 3, LOWEST, HIGHEST};

    private SheetsEdges() {
    }

    static void promise28KeepImages0And1() {
        CHECK.words(28, "IMAGE k (0, 1) is BOUNDS, WHOLE, LEVELS: whether there was one (1, 0). BAD.");
        for (int k : NO_IMAGES) {
            CHECK.refused("keep(" + k + ")", Scene::rich, g -> g.keep(k), GapBounds.BAD);
        }
        Subject g = new Subject();
        CHECK.dueAll("keep", new long[] {g.keep(0), g.keep(0), g.keep(1), g.keep(1), g.keep(0)}, 0, 1, 0, 1, 1);
    }

    static void promise28KeepChangesNothingElse() {
        CHECK.refused("keep(0)", Scene::rich, g -> g.keep(0), 1,
                "image 0", "5 5 0 bounds 0,1,5,0 1,2,3,1 2,3,2,0 3,4,7,1 4,5,9,0 levels 3 4");
        CHECK.refused("keep(1)", Scene::rich, g -> g.keep(1), 1,
                "image 1", "5 5 0 bounds 0,1,5,0 1,2,3,1 2,3,2,0 3,4,7,1 4,5,9,0 levels 3 4");
    }

    static void promise28KeepOfNothingAndOfAll() {
        Subject none = new Subject();
        none.keep(1);
        none.filled(24, 0, 1, 5);
        none.push();
        none.whole(0);
        CHECK.due("keep(0) of 24 BOUNDS", none.keep(0), 0);
        CHECK.due("back(1)", none.back(1), 0);
        CHECK.same("a new object's", Scene.now(none), "0 1 bounds levels");
        CHECK.due("back(0)", none.back(0), 24);
        CHECK.dueAll("24 BOUNDS", new long[] {none.limit(23), none.limit(24), none.rule(1), none.level(0)},
                5, GapBounds.NOTHING, 0, 24);
        Subject eight = Scene.stacked();
        eight.keep(0);
        eight.pop(0);
        eight.back(0);
        CHECK.dueAll("8 LEVELS", new long[] {eight.rule(2), eight.level(0), eight.level(7), eight.push()}, 8, 3, 5,
                GapBounds.FULL);
    }

    static void promise28AnImageStaysAsItWas() {
        Subject g = Scene.rich();
        g.change(0, 99);
        g.shift(1, 5);
        g.drop(1);
        g.whole(1);
        g.pop(0);
        CHECK.due("back(0)", g.back(0), 3);
        CHECK.same("IMAGE 0", Scene.now(g), "3 0 bounds 0,1,5,0 1,2,3,1 2,3,2,0 levels 3");
        g.change(0, 98);
        g.drop(2);
        CHECK.due("back(0) again", g.back(0), 3);
        CHECK.same("IMAGE 0", Scene.now(g), "3 0 bounds 0,1,5,0 1,2,3,1 2,3,2,0 levels 3");
    }

    static void promise29BackToImages0And1() {
        CHECK.words(29, "All is as IMAGE k");
        CHECK.words(29, "BOUNDS. BAD");
        for (int k : NO_IMAGES) {
            CHECK.refused("back(" + k + ")", Scene::rich, g -> g.back(k), GapBounds.BAD);
        }
        Subject g = Scene.rich();
        CHECK.due("back(0)", g.back(0), 3);
        CHECK.same("IMAGE 0", Scene.now(g), "3 0 bounds 0,1,5,0 1,2,3,1 2,3,2,0 levels 3");
        CHECK.due("back(1)", g.back(1), 4);
        CHECK.same("IMAGE 1", Scene.now(g), "4 0 bounds 0,1,5,0 1,2,3,1 2,3,2,0 3,4,7,1 levels 3 4");
        CHECK.due("there are still both", g.count(0), 2);
    }

    static void promise29BackToNone() {
        CHECK.words(29, "STATE: there is none.");
        for (int k = 0; k < 2; k++) {
            Subject g = new Subject();
            g.add(0, 1, 5, 0);
            CHECK.due("back(" + k + ")", g.back(k), GapBounds.STATE);
            CHECK.same("as it was", Scene.now(g), "1 1 bounds 0,1,5,0 levels");
            g.keep(1 - k);
            g.drop(0);
            CHECK.due("back(" + k + ") with the other one", g.back(k), GapBounds.STATE);
            CHECK.same("as it was", Scene.now(g), "0 1 bounds levels");
            CHECK.due("back to the other", g.back(1 - k), 1);
        }
    }

    static void promise29BackChangesNothingElse() {
        CHECK.words(29, "(CONFLICT stays)");
        CHECK.refused("back(0)", Scene::rich, g -> g.back(0), 3,
                "now", "3 0 bounds 0,1,5,0 1,2,3,1 2,3,2,0 levels 3");
    }

    static void promise30SheetsAndLanes() {
        CHECK.words(30, "BAD: also n above 40");
        CHECK.words(30, "SHEETS 0 to 3 are rows of BYTES (lane 0), SHORTS (1), INTS (2) with 0 to 40 CELLS");
        for (int k : NO_SHEETS) {
            CHECK.refused("sheet(" + k + ", 0, 1)", Scene::rich, g -> g.sheet(k, 0, 1), GapBounds.BAD);
        }
        for (int lane : NO_LANES) {
            CHECK.refused("sheet(0, " + lane + ", 1)", Scene::rich, g -> g.sheet(0, lane, 1), GapBounds.BAD);
        }
        for (int k = 0; k < 4; k++) {
            for (int lane = 0; lane < 3; lane++) {
                Subject g = new Subject();
                CHECK.due("sheet(" + k + ", " + lane + ", 1)", g.sheet(k, lane, 1), 1);
                CHECK.dueAll("one CELL", new long[] {g.lay(k, 0, 9), g.lay(k, 1, 9)}, 1, -12);
                for (int as = 0; as < 3; as++) {
                    g.read(k, as, 0, 1);
                    CHECK.due("as of lane " + as, g.torn(), as == lane ? 2 : 3);
                }
                for (int other = 0; other < 4; other++) {
                    CHECK.due("the others have nothing", g.lay(other, 0, 1), other == k ? 1 : -11);
                }
            }
        }
    }

    static void promise30Sheet0To40Cells() {
        for (int n : new int[] {41, 42, HIGHEST}) {
            CHECK.refused("sheet(0, 1, " + n + ")", Scene::rich, g -> g.sheet(0, 1, n), GapBounds.BAD);
            CHECK.refused("sheet(3, 1, " + n + ")", Scene::rich, g -> g.sheet(3, 1, n), GapBounds.BAD);
        }
        for (int n : new int[] {0, 1, 39, 40}) {
            Subject g = new Subject();
            CHECK.due("sheet(0, 2, " + n + ")", g.sheet(0, 2, n), 1);
            CHECK.due("count(2)", g.count(2), n);
            CHECK.due("lay the last", g.lay(0, n - 1, 1), n == 0 ? -12 : 1);
            CHECK.due("lay one behind", g.lay(0, n, 1), -12);
        }
    }

    static void promise30SheetBelow0IsSize() {
        CHECK.words(30, "-10 - 4.");
        CHECK.words(30, "4 SIZE (below 0).");
        for (int n : new int[] {-1, -2, -40, -41, LOWEST}) {
            CHECK.refused("sheet(0, 1, " + n + ")", Scene::rich, g -> g.sheet(0, 1, n), -14);
            CHECK.refused("sheet(3, 1, " + n + ")", Scene::rich, g -> g.sheet(3, 1, n), -14);
        }
    }

    static void promise30BadIsAheadOfSize() {
        CHECK.refused("sheet(4, 0, -1)", Scene::rich, g -> g.sheet(4, 0, -1), GapBounds.BAD);
        CHECK.refused("sheet(-1, 0, -1)", Scene::rich, g -> g.sheet(-1, 0, -1), GapBounds.BAD);
        CHECK.refused("sheet(0, 3, -1)", Scene::rich, g -> g.sheet(0, 3, -1), GapBounds.BAD);
        CHECK.refused("sheet(0, -1, -1)", Scene::rich, g -> g.sheet(0, -1, -1), GapBounds.BAD);
    }

    static void promise30ANewRowOfCells0() {
        CHECK.words(30, "A SHEET is a new row of CELLS 0: 1.");
        for (int lane = 0; lane < 3; lane++) {
            Subject g = new Subject().laid(1, lane, 9, 9, 9, 1, 9, 9, 9, 9);
            g.sheet(1, lane, 8);
            g.lay(1, 0, 1);
            CHECK.due("the rest is 0", g.read(1, lane, 0, 1), 1);
            CHECK.same("1, 0, 0, 0", Scene.now(g), "1 1 bounds 1,0,0,0 levels");
            g.lay(1, 5, 3);
            CHECK.due("the rest is 0", g.read(1, lane, 4, 1), 1);
            CHECK.same("0, 3, 0, 0", Scene.now(g), "2 1 bounds 1,0,0,0 0,3,0,0 levels");
        }
        Subject shorter = new Subject().laid(0, 0, 1, 2, 3, 0, 5, 6, 7, 0);
        shorter.sheet(0, 0, 4);
        CHECK.dueAll("shorter", new long[] {shorter.count(2), shorter.lay(0, 4, 1), shorter.lay(0, 3, 1)}, 4, -12, 1);
        shorter.sheet(0, 0, 8);
        shorter.lay(0, 4, 9);
        CHECK.due("longer again, CELLS are 0", shorter.read(0, 0, 4, 1), 1);
        CHECK.same("9, 0, 0, 0", Scene.now(shorter), "1 1 bounds 9,0,0,0 levels");
        Subject lane = new Subject().laid(0, 2, 1, 2, 3, 0);
        lane.sheet(0, 0, 4);
        CHECK.dueAll("another lane", new long[] {lane.read(0, 2, 0, 1), lane.torn()}, 0, 3);
    }

    static void promise31LayOfSheets0To3() {
        CHECK.words(31, "BAD: k");
        for (int k : NO_SHEETS) {
            CHECK.refused("lay(" + k + ", 0, 1)", Scene::rich, g -> g.lay(k, 0, 1), GapBounds.BAD);
            CHECK.refused("lay(" + k + ", -1, 1)", Scene::rich, g -> g.lay(k, -1, 1), GapBounds.BAD);
        }
        for (int k = 0; k < 4; k++) {
            Subject g = new Subject();
            g.sheet(k, k % 3, 1);
            CHECK.due("lay(" + k + ", 0, 1)", g.lay(k, 0, 1), 1);
        }
    }

    static void promise31LayOfNothing() {
        CHECK.words(31, "-10 less the FAULT: NULL, INDEX.");
        CHECK.words(31, "A FAULT is what the machine finds: 1 NULL (nothing), 2 INDEX,");
        for (int i : new int[] {0, -1, 40, LOWEST, HIGHEST}) {
            CHECK.refused("lay(3, " + i + ", 1)", Scene::rich, g -> g.lay(3, i, 1), -11);
        }
        CHECK.due("a SHEET of no CELLS is not nothing", new Subject().laid(3, 0).lay(3, 0, 1), -12);
    }

    static void promise31LayBesideTheCells() {
        for (int i : new int[] {-1, 8, 9, 40, 41, LOWEST, HIGHEST}) {
            CHECK.refused("lay(0, " + i + ", 1) of 8", Scene::rich, g -> g.lay(0, i, 1), -12);
        }
        for (int lane = 0; lane < 3; lane++) {
            Subject g = new Subject();
            g.sheet(1, lane, 40);
            CHECK.dueAll("of 40", new long[] {g.lay(1, 0, 1), g.lay(1, 39, 1), g.lay(1, 40, 1), g.lay(1, -1, 1)}, 1, 1, -12, -12);
        }
    }

    static void promise31LayLeavesTornAndFault() {
        Subject g = Scene.rich();
        g.lay(3, 0, 1);
        g.sheet(3, 0, -1);
        CHECK.dueAll("torn(), fault()", new long[] {g.torn(), g.fault()}, 2, 2);
    }

    static void promise31TheLowestBits() {
        CHECK.words(31, "CELL i of a SHEET becomes v (its lowest bits): 1.");
        int[] laid = {0, 1, -1, 127, 128, -128, -129, 255, 256, 32767, 32768, -32768, -32769, 65535, 65536, HIGHEST, LOWEST};
        for (int lane = 0; lane < 3; lane++) {
            for (int v : laid) {
                int due = lane == 0 ? (byte) v : lane == 1 ? (short) v : v;
                Subject g = new Subject().laid(2, lane, 4, 5, v, 0);
                CHECK.due("read", g.read(2, lane, 0, 1), 1);
                CHECK.due("lane " + lane + " keeps of " + v, g.limit(0), due);
            }
        }
        Subject byteX = new Subject().laid(2, 0, 256 + 4, 512 + 5, 7, 256 + 1);
        CHECK.due("read", byteX.read(2, 0, 0, 1), 1);
        CHECK.same("also of x, y, STRICT", Scene.now(byteX), "1 1 bounds 4,5,7,1 levels");
        Subject shortX = new Subject().laid(2, 1, 65536 + 4, 5 - 65536, 7, 65536);
        CHECK.due("read", shortX.read(2, 1, 0, 1), 1);
        CHECK.same("also of x, y, STRICT", Scene.now(shortX), "1 1 bounds 4,5,7,0 levels");
        CHECK.due("256 of SHORTS is 256", new Subject().laid(2, 1, 256 + 4, 5, 7, 0).read(2, 1, 0, 1), -20);
    }

    static void promise31LayOfOneCellJust() {
        Subject g = new Subject().laid(0, 0, 0, 1, 2, 0, 3, 4, 5, 1);
        g.laid(1, 0, 0, 1, 2, 0);
        CHECK.due("lay(0, 4, 9)", g.lay(0, 4, 9), 1);
        CHECK.dueAll("read", new long[] {g.read(0, 0, 0, 2), g.read(1, 0, 0, 1)}, 2, 1);
        CHECK.same("the others are as they were", Scene.now(g), "3 1 bounds 0,1,2,0 9,4,5,1 0,1,2,0 levels");
    }

    static void promise34CountFrom0To3() {
        CHECK.words(34, "How many:");
        CHECK.words(34, "1 bytes on THE TAPE,");
        CHECK.words(34, "BAD.");
        for (int what : new int[] {-1, 4, LOWEST, HIGHEST}) {
            CHECK.refused("count(" + what + ")", Scene::rich, g -> g.count(what), GapBounds.BAD);
        }
        Subject g = Scene.rich();
        CHECK.dueAll("count(0) to (3)", new long[] {g.count(0), g.count(1), g.count(2), g.count(3)}, 2, 11, 8, 2);
        Subject tape = new Subject().fed(" ".repeat(320));
        CHECK.due("320 bytes", tape.count(1), 320);
        tape.feed(' ');
        CHECK.due("320 bytes", tape.count(1), 320);
        tape.text();
        CHECK.due("no bytes", tape.count(1), 0);
    }

    static void promise34CountImages() {
        CHECK.words(34, "0 IMAGES,");
        Subject g = new Subject();
        CHECK.due("none", g.count(0), 0);
        g.keep(1);
        CHECK.due("just the second", g.count(0), 1);
        g.keep(1);
        CHECK.due("the second again", g.count(0), 1);
        g.keep(0);
        CHECK.due("both", g.count(0), 2);
        g.back(0);
        CHECK.due("back() leaves both", g.count(0), 2);
        g.text();
        CHECK.due("none behind text()", g.count(0), 0);
    }

    static void promise34CellsOfSheet0() {
        CHECK.words(34, "2 CELLS of SHEET 0 (NONE: nothing),");
        Subject g = new Subject();
        for (int k = 1; k < 4; k++) {
            g.sheet(k, 0, 7);
        }
        CHECK.due("just SHEET 0 counts", g.count(2), GapBounds.NONE);
        g.sheet(0, 0, 0);
        CHECK.due("no CELLS is not nothing", g.count(2), 0);
        g.sheet(0, 2, 40);
        CHECK.due("40", g.count(2), 40);
        g.sheet(0, 2, 41);
        g.sheet(0, 2, -1);
        CHECK.due("refused", g.count(2), 40);
        g.sheet(0, 1, 1);
        CHECK.due("1", g.count(2), 1);
    }

    static void promise34StrictBounds() {
        CHECK.words(34, "3 BOUNDS that are STRICT.");
        Subject g = new Subject();
        CHECK.due("none", g.count(3), 0);
        for (int i = 1; i <= 24; i++) {
            g.add(0, 1, 5, 1);
            CHECK.due("count(3)", g.count(3), i);
        }
        g.drop(0);
        CHECK.due("23", g.count(3), 23);
        g.add(0, 1, 5, 0);
        CHECK.due("one that is not", g.count(3), 23);
        g.whole(0);
        CHECK.due("any numbers", g.count(3), 23);
    }
}
