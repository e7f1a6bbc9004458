/** Promises 28 to 34: images, sheets, reading, count. */
public final class SheetsTest {
    private static final Check CHECK = new Check();

    public static void main(String[] args) {
        keepAndBack();
        imagesStandAlone();
        sheet();
        lay();
        lanes();
        readAll();
        readTorn();
        readTornOrder();
        readRefused();
        readBad();
        tornStays();
        count();
        CHECK.close("SheetsTest");
    }

    private static void keepAndBack() {
        Subject g = new Subject().told("real;most a b 5;less b c 1;");
        g.push();
        CHECK.due("keep(-1)", g.keep(-1), GapBounds.BAD);
        CHECK.due("keep(2)", g.keep(2), GapBounds.BAD);
        CHECK.due("back(-1)", g.back(-1), GapBounds.BAD);
        CHECK.due("back(2)", g.back(2), GapBounds.BAD);
        CHECK.due("back(0)", g.back(0), GapBounds.STATE);
        CHECK.due("keep(0)", g.keep(0), 0);
        CHECK.due("back(1)", g.back(1), GapBounds.STATE);
        g.drop(0);
        g.whole(1);
        g.pop(0);
        g.add(3, 4, 1, 0);
        g.add(4, 3, -2, 0);
        CHECK.same("changed", Check.state(g), "2 1 bounds 1,2,1,1 3,4,1,0 levels conflict 1 images 1");
        CHECK.due("back(0)", g.back(0), 2);
        CHECK.same("as it was", Check.state(g), "2 0 bounds 0,1,5,0 1,2,1,1 levels 2 conflict 1 images 1");
        CHECK.due("keep(0) again", g.keep(0), 1);
    }

    private static void imagesStandAlone() {
        Subject g = new Subject().told("most a b 5;");
        g.keep(0);
        g.change(0, 6);
        g.push();
        g.keep(1);
        g.change(0, 7);
        CHECK.due("back(0)", g.back(0), 1);
        CHECK.due("limit(0)", g.limit(0), 5);
        g.change(0, 8);
        g.shift(0, 1);
        CHECK.due("back(1)", g.back(1), 1);
        CHECK.due("limit(0)", g.limit(0), 6);
        CHECK.due("level(0)", g.level(0), 1);
        g.drop(0);
        CHECK.due("back(1)", g.back(1), 1);
        CHECK.due("level(0)", g.level(0), 1);
        CHECK.due("back(0) stays", g.back(0), 1);
        CHECK.due("limit(0)", g.limit(0), 5);
        CHECK.due("no LEVEL", g.rule(2), 0);
    }

    private static void sheet() {
        Subject g = new Subject();
        CHECK.due("sheet(-1)", g.sheet(-1, 0, 1), GapBounds.BAD);
        CHECK.due("sheet(4)", g.sheet(4, 0, 1), GapBounds.BAD);
        CHECK.due("sheet lane -1", g.sheet(0, -1, 1), GapBounds.BAD);
        CHECK.due("sheet lane 3", g.sheet(0, 3, 1), GapBounds.BAD);
        CHECK.due("sheet 41", g.sheet(0, 0, 41), GapBounds.BAD);
        CHECK.due("BAD is ahead of SIZE", g.sheet(4, 0, -1), GapBounds.BAD);
        CHECK.due("BAD is ahead of SIZE", g.sheet(0, 3, -1), GapBounds.BAD);
        CHECK.due("SIZE", g.sheet(0, 0, -1), -14);
        CHECK.due("SIZE", g.sheet(0, 0, Integer.MIN_VALUE), -14);
        CHECK.due("nothing yet", g.count(2), GapBounds.NONE);
        CHECK.due("sheet of no CELLS", g.sheet(0, 2, 0), 1);
        CHECK.due("count(2)", g.count(2), 0);
        CHECK.due("lay", g.lay(0, 0, 1), -12);
        CHECK.due("sheet of 40", g.sheet(0, 2, 40), 1);
        CHECK.due("count(2)", g.count(2), 40);
        for (int i = 0; i < 40; i++) {
            CHECK.due("lay " + i, g.lay(0, i, i % 4 == 0 ? 1 : 0), 1);
        }
        CHECK.due("SIZE changes nothing", g.sheet(0, 2, -5), -14);
        CHECK.due("count(2)", g.count(2), 40);
        CHECK.due("read", g.read(0, 2, 36, 1), 1);
        CHECK.due("a new row has CELLS 0", g.sheet(0, 2, 40), 1);
        CHECK.due("so x is y", g.read(0, 2, 36, 1), -20);
    }

    private static void lay() {
        Subject g = new Subject();
        CHECK.due("lay(-1)", g.lay(-1, 0, 0), GapBounds.BAD);
        CHECK.due("lay(4)", g.lay(4, 0, 0), GapBounds.BAD);
        CHECK.due("lay of nothing", g.lay(3, 0, 0), -11);
        CHECK.due("NULL is ahead of INDEX", g.lay(3, -1, 0), -11);
        g.sheet(3, 0, 3);
        CHECK.due("lay(3, -1)", g.lay(3, -1, 0), -12);
        CHECK.due("lay(3, 3)", g.lay(3, 3, 0), -12);
        CHECK.due("lay(3, MAX)", g.lay(3, Integer.MAX_VALUE, 0), -12);
        CHECK.due("lay(3, MIN)", g.lay(3, Integer.MIN_VALUE, 0), -12);
        CHECK.due("lay(3, 2)", g.lay(3, 2, 0), 1);
    }

    private static void lanes() {
        int[] laid = {0x12345678, 0x7FFF0080, -1, 0x18000};
        long[][] want = {{0x78, -128, -1, 0}, {0x5678, 0x80, -1, -32768}, {0x12345678, 0x7FFF0080, -1, 0x18000}};
        for (int lane = 0; lane < 3; lane++) {
            for (int i = 0; i < laid.length; i++) {
                Subject g = new Subject();
                g.sheet(1, lane, 4);
                g.lay(1, 0, 256 * 65536 * lane + (lane < 2 ? 0x50000 : 0) + (lane < 2 ? 3 : -256 * 65536 * 2 + 3));
                g.lay(1, 1, 2);
                g.lay(1, 2, laid[i]);
                g.lay(1, 3, lane < 2 ? 0x10001 + 0x30000 : 1);
                CHECK.due("read lane " + lane, g.read(1, lane, 0, 1), 1);
                CHECK.due("lane " + lane + " leaves of " + laid[i], g.limit(0), want[lane][i]);
                CHECK.due("x", g.bound(0, 0), 3);
                CHECK.due("STRICT", g.bound(0, 2), 1);
            }
        }
    }

    private static Subject withSheet(int lane, int... cells) {
        Subject g = new Subject();
        g.sheet(2, lane, cells.length);
        for (int i = 0; i < cells.length; i++) {
            g.lay(2, i, cells[i]);
        }
        return g;
    }

    private static void readAll() {
        Subject g = withSheet(1, 9, 0, 1, 5, 0, 1, 2, -3, 1, 2, 3, 7, 0);
        CHECK.due("read of 0", g.read(2, 1, 1, 0), 0);
        CHECK.due("read", g.read(2, 1, 1, 2), 2);
        CHECK.due("torn", g.torn(), 0);
        CHECK.same("read", Check.state(g), "2 1 bounds 0,1,5,0 1,2,-3,1 levels conflict images 0");
        CHECK.due("one more", g.read(2, 1, 9, 1), 1);
        CHECK.due("rule(0)", g.rule(0), 3);
        Subject ten = new Subject();
        ten.sheet(0, 0, 40);
        for (int i = 0; i < 10; i++) {
            ten.lay(0, 4 * i, i);
            ten.lay(0, 4 * i + 1, (i + 1) % 10);
        }
        CHECK.due("ten", ten.read(0, 0, 0, 10), 10);
        CHECK.due("all are fixed", ten.rule(6), 1);
        CHECK.due("ten more", ten.read(0, 0, 0, 10), 10);
        CHECK.due("FULL at the fifth", ten.read(0, 0, 0, 10), -24);
        CHECK.due("none came", ten.rule(0), 20);
        CHECK.due("four", ten.read(0, 0, 0, 4), 4);
    }

    private static void readTorn() {
        Subject g = withSheet(1, 0, 1, 5, 0, 1, 2, -3, 1, 2, 3, 7);
        CHECK.due("the third is not whole", g.read(2, 1, 0, 3), 2);
        CHECK.due("torn", g.torn(), 2);
        CHECK.due("they came", g.rule(0), 2);
        CHECK.due("from below 0", g.read(2, 1, -1, 1), 0);
        CHECK.due("torn", g.torn(), 2);
        CHECK.due("from below 0, the second would be whole", g.read(2, 1, -4, 2), 0);
        CHECK.due("none came", g.rule(0), 2);
        for (int f : new int[] {8, 11, 12, 40, Integer.MAX_VALUE, Integer.MAX_VALUE - 3, Integer.MIN_VALUE}) {
            CHECK.due("read from " + f, g.read(2, 1, f, 10), 0);
            CHECK.due("torn", g.torn(), 2);
        }
        CHECK.due("another lane", g.read(2, 0, 0, 2), 0);
        CHECK.due("torn", g.torn(), 3);
        CHECK.due("another lane", g.read(2, 2, 0, 2), 0);
        CHECK.due("torn", g.torn(), 3);
        CHECK.due("nothing", g.read(0, 2, 0, 2), 0);
        CHECK.due("torn", g.torn(), 1);
        CHECK.due("the machine finds nothing if no CELL is read", g.read(0, 2, 0, 0), 0);
        CHECK.due("torn", g.torn(), 0);
    }

    private static void readTornOrder() {
        Subject g = withSheet(0, 0, 1, 5, 0);
        g.read(2, 0, 0, 1);
        CHECK.due("CAST is ahead of INDEX", g.read(2, 1, 99, 1), 0);
        CHECK.due("torn", g.torn(), 3);
        CHECK.due("NULL is ahead of INDEX", g.read(1, 1, 99, 1), 0);
        CHECK.due("torn", g.torn(), 1);
        g.sheet(2, 0, 0);
        CHECK.due("no CELLS", g.read(2, 0, 0, 1), 0);
        CHECK.due("torn", g.torn(), 2);
        Subject refused = withSheet(0, 0, 1, 5, 0, 3, 3, 0, 0, 1);
        CHECK.due("the first met: refused", refused.read(2, 0, 0, 3), -21);
        Subject half = withSheet(0, 0, 1, 5, 0, 3, 3);
        CHECK.due("the first met: torn, not whole", half.read(2, 0, 0, 2), 1);
        CHECK.due("torn", half.torn(), 2);
    }

    private static void readRefused() {
        Subject g = withSheet(1, 0, 1, 5, 0, 1, 2, -3, 1, 2, 0, -2, 0);
        g.add(8, 9, 1, 0);
        g.push();
        CHECK.due("the third can not be", g.read(2, 1, 0, 3), -22);
        CHECK.same("none came, CONFLICT as they were then", Check.state(g),
                "1 1 bounds 8,9,1,0 levels 1 conflict 2 1 images 0");
        CHECK.due("read two", g.read(2, 1, 0, 2), 2);
        g.lay(2, 3, 2);
        CHECK.due("STRICT 2", g.read(2, 1, 0, 1), -20);
        g.lay(2, 3, 0);
        g.lay(2, 0, 10);
        CHECK.due("x 10", g.read(2, 1, 0, 1), -20);
        g.lay(2, 0, -1);
        CHECK.due("x -1", g.read(2, 1, 0, 1), -20);
        CHECK.due("CONFLICT is as add() tells it", g.rule(7), 2);
        CHECK.due("rule(0)", g.rule(0), 3);
    }

    private static void readBad() {
        Subject g = withSheet(1, 0, 1, 5, 0);
        CHECK.due("read(-1)", g.read(-1, 1, 0, 1), GapBounds.BAD);
        CHECK.due("read(4)", g.read(4, 1, 0, 1), GapBounds.BAD);
        CHECK.due("read lane -1", g.read(2, -1, 0, 1), GapBounds.BAD);
        CHECK.due("read lane 3", g.read(2, 3, 0, 1), GapBounds.BAD);
        CHECK.due("read n -1", g.read(2, 1, 0, -1), GapBounds.BAD);
        CHECK.due("read n 11", g.read(2, 1, 0, 11), GapBounds.BAD);
        CHECK.due("none came", g.rule(0), 0);
    }

    private static void tornStays() {
        Subject g = withSheet(1, 0, 1, 5, 0, 1, 1, 0, 0);
        g.read(2, 0, 0, 1);
        CHECK.due("torn", g.torn(), 3);
        g.read(2, 1, 0, 11);
        CHECK.due("a BAD read() came to no end", g.torn(), 3);
        g.read(2, 1, 0, 2);
        CHECK.due("a refused read() came to no end", g.torn(), 3);
        g.lay(2, 99, 0);
        g.sheet(1, 1, -1);
        CHECK.due("lay() and sheet() are not read()", g.torn(), 3);
        g.read(2, 1, 0, 1);
        CHECK.due("torn", g.torn(), 0);
    }

    private static void count() {
        Subject g = new Subject().told("less a b 5;less a b 6;most b a 9;over c d 1;");
        CHECK.due("count(0)", g.count(0), 0);
        g.keep(1);
        CHECK.due("count(0)", g.count(0), 1);
        g.keep(1);
        CHECK.due("count(0)", g.count(0), 1);
        g.keep(0);
        CHECK.due("count(0)", g.count(0), 2);
        g.feed(' ');
        CHECK.due("count(1)", g.count(1), 1);
        g.sheet(1, 0, 3);
        CHECK.due("count(2) is of SHEET 0", g.count(2), GapBounds.NONE);
        g.sheet(0, 1, 9);
        CHECK.due("count(2)", g.count(2), 9);
        CHECK.due("count(3)", g.count(3), 3);
        g.whole(0);
        CHECK.due("count(3)", g.count(3), 3);
        CHECK.due("count(-1)", g.count(-1), GapBounds.BAD);
        CHECK.due("count(4)", g.count(4), GapBounds.BAD);
    }
}
