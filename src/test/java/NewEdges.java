/** Promise 1: what a new object has, and that it is its own. */
final class NewEdges {
    private static final Check CHECK = EdgesTest.CHECK;

    private NewEdges() {
    }

    static void promise01NoBounds() {
        CHECK.words(1, "No BOUNDS");
        Subject g = new Subject();
        CHECK.dueAll("rule(0), (3), (4), (5)", new long[] {g.rule(0), g.rule(3), g.rule(4), g.rule(5)}, 0, 0, 0, 0);
        CHECK.due("bound(0, 0)", g.bound(0, 0), GapBounds.BAD);
        CHECK.due("limit(0)", g.limit(0), GapBounds.NOTHING);
        CHECK.due("pair(0)", g.pair(0), GapBounds.NONE);
        CHECK.due("drop(0)", g.drop(0), GapBounds.BAD);
        CHECK.due("change(0, 1)", g.change(0, 1), GapBounds.BAD);
        CHECK.due("count(3)", g.count(3), 0);
        CHECK.due("the first is number 0", g.add(0, 1, 7, 0), 1);
        CHECK.due("limit(0)", g.limit(0), 7);
    }

    static void promise01SheetsHaveNothing() {
        CHECK.words(1, "SHEETS have nothing.");
        CHECK.words(1, "or nothing (at first)");
        for (int k = 0; k < 4; k++) {
            Subject g = new Subject();
            CHECK.due("lay(" + k + ", 0, 1)", g.lay(k, 0, 1), -11);
            for (int lane = 0; lane < 3; lane++) {
                CHECK.due("read(" + k + ", " + lane + ", 0, 1)", g.read(k, lane, 0, 1), 0);
                CHECK.due("torn()", g.torn(), 1);
            }
        }
        CHECK.due("count(2)", new Subject().count(2), GapBounds.NONE);
    }

    static void promise01WholeNumbersAtFirst() {
        CHECK.words(1, "WHOLE (1: they are whole numbers; 0: any; 1 at first).");
        Subject g = new Subject();
        CHECK.due("rule(1)", g.rule(1), 1);
        CHECK.due("whole(0) tells what it was", g.whole(0), 1);
    }

    static void promise01NoLevelsAtFirst() {
        CHECK.words(1, "none at first): marks");
        Subject g = new Subject();
        CHECK.due("rule(2)", g.rule(2), 0);
        CHECK.due("level(0)", g.level(0), GapBounds.BAD);
        CHECK.due("pop(0)", g.pop(0), GapBounds.BAD);
    }

    static void promise01NoConflictAtFirst() {
        CHECK.words(1, "CONFLICT (none at first)");
        Subject g = new Subject();
        CHECK.due("rule(7)", g.rule(7), 0);
        CHECK.due("conflict(0)", g.conflict(0), GapBounds.NONE);
    }

    static void promise01NoImagesNoBytesNoFaults() {
        Subject g = new Subject();
        CHECK.dueAll("count(0), (1)", new long[] {g.count(0), g.count(1)}, 0, 0);
        CHECK.dueAll("fault(), torn()", new long[] {g.fault(), g.torn()}, 0, 0);
        CHECK.dueAll("back(0), (1)", new long[] {g.back(0), g.back(1)}, GapBounds.STATE, GapBounds.STATE);
        CHECK.due("end(0)", g.end(0), 0);
    }

    static void promise01ThingsStandAlone() {
        CHECK.words(1, "THINGS 0 to 9 (a to j), each a number that is not known.");
        Subject g = new Subject();
        CHECK.due("ten groups", g.rule(6), 10);
        for (int x = 0; x < 10; x++) {
            for (int y = 0; y < 10; y++) {
                CHECK.due("implied(" + x + ", " + y + ", 0)", g.implied(x, y, 0), x == y ? 0 : GapBounds.NOTHING);
            }
            CHECK.due("high(" + x + ", 0)", g.high(x, 0), 0);
        }
    }

    static void promise01ObjectsShareNothing() {
        Subject other = new Subject();
        Scene.rich();
        CHECK.same("another object", Scene.tell(other).toString(), Scene.tell(new Subject()).toString());
    }

    static void promise01The512thCallIsAnswered() {
        CHECK.words(1, "An object is used for at most 512 calls after it has been made");
        Subject g = new Subject();
        for (int i = 0; i < 102; i++) {
            CHECK.due("push()", g.push(), 1);
            CHECK.due("add", g.add(0, 1, i, 0), 1);
            CHECK.due("keep(0)", g.keep(0), i == 0 ? 0 : 1);
            CHECK.due("pop(0)", g.pop(0), 1);
            CHECK.due("rule(0)", g.rule(0), 0);
        }
        CHECK.due("the 511th call", g.back(0), 1);
        CHECK.due("the 512th call", g.limit(0), 101);
        CHECK.due("no call is left", g.left(), 0);
    }

    static void promise01TheLastOf512CallsMayBeAText() {
        Subject g = new Subject().filled(191, 0, 1, 5);
        String text = "less c d 7;" + " ".repeat(309);
        CHECK.due("the 511th call", g.fed(text).left(), 1);
        CHECK.due("the 512th call", g.text(), 1);
    }
}
