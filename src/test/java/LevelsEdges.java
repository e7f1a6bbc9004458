/** Promises 18 to 20: LEVELS. */
final class LevelsEdges {
    private static final Check CHECK = EdgesTest.CHECK;
    private static final int LOWEST = Integer.MIN_VALUE, HIGHEST = Integer.MAX_VALUE;

    private LevelsEdges() {
    }

    static void promise18PushToEight() {
        CHECK.words(18, "A LEVEL more, at all BOUNDS there are: how many LEVELS. FULL.");
        CHECK.words(18, "LEVELS (8 at most");
        Subject g = new Subject();
        for (int i = 1; i <= 8; i++) {
            CHECK.due("push " + i, g.push(), i);
        }
        CHECK.due("the 9th", g.push(), GapBounds.FULL);
        CHECK.due("the 9th again", g.push(), GapBounds.FULL);
        CHECK.due("rule(2)", g.rule(2), 8);
    }

    static void promise18FullChangesNothing() {
        CHECK.refused("the 9th", Scene::stacked, g -> g.push(), GapBounds.FULL);
    }

    static void promise18PushAtAllBounds() {
        CHECK.words(18, "marks, by order, each at so many BOUNDS as there were when it was made.");
        Subject g = new Subject();
        g.push();
        g.add(0, 1, 5, 0);
        g.push();
        g.push();
        g.filled(23, 0, 1, 5);
        g.push();
        CHECK.dueAll("at 0, 1, 1, 24", new long[] {g.level(0), g.level(1), g.level(2), g.level(3)}, 0, 1, 1, 24);
    }

    static void promise18RoomAgainBehindPop() {
        Subject g = Scene.stacked();
        g.pop(7);
        CHECK.due("push", g.push(), 8);
        CHECK.due("push", g.push(), GapBounds.FULL);
        g.pop(0);
        CHECK.due("push", g.push(), 1);
    }

    static void promise19PopFrom0ToTheLast() {
        CHECK.words(19, "LEVELS n and behind it are gone, BOUNDS are as many as were at LEVEL n (0 on): how many BOUNDS went.");
        CHECK.words(19, "BAD.");
        for (int n : new int[] {-1, 2, 3, 8, LOWEST, HIGHEST}) {
            CHECK.refused("pop(" + n + ") of 2", Scene::rich, g -> g.pop(n), GapBounds.BAD);
        }
        CHECK.due("pop(0) of none", new Subject().pop(0), GapBounds.BAD);
        Subject last = Scene.rich();
        CHECK.due("pop(1) of 2", last.pop(1), 1);
        CHECK.same("left", Scene.now(last), "4 0 bounds 0,1,5,0 1,2,3,1 2,3,2,0 3,4,7,1 levels 3");
        CHECK.due("pop(1) of 1", last.pop(1), GapBounds.BAD);
        Subject first = Scene.rich();
        CHECK.due("pop(0) of 2", first.pop(0), 2);
        CHECK.same("left", Scene.now(first), "3 0 bounds 0,1,5,0 1,2,3,1 2,3,2,0 levels");
        CHECK.due("pop(0) of none", first.pop(0), GapBounds.BAD);
    }

    static void promise19PopOfEight() {
        Subject g = new Subject();
        for (int i = 0; i < 8; i++) {
            g.push();
            g.filled(3, 0, 1, i);
        }
        CHECK.due("pop(8)", g.pop(8), GapBounds.BAD);
        CHECK.due("pop(7)", g.pop(7), 3);
        CHECK.due("pop(7)", g.pop(7), GapBounds.BAD);
        CHECK.dueAll("pop(1)", new long[] {g.pop(1), g.rule(0), g.rule(2)}, 18, 3, 1);
        CHECK.dueAll("pop(0)", new long[] {g.pop(0), g.rule(0), g.rule(2)}, 3, 0, 0);
    }

    static void promise19PopOf24AndOfNoBounds() {
        Subject g = new Subject();
        g.push();
        g.filled(24, 0, 1, 5);
        g.push();
        CHECK.due("none went", g.pop(1), 0);
        CHECK.due("all went", g.pop(0), 24);
        CHECK.due("there is room", g.add(0, 1, 5, 0), 1);
    }

    static void promise19PopGoesBackToHowManyJust() {
        Subject g = Scene.rich();
        g.change(0, 55);
        g.whole(1);
        CHECK.due("pop(0)", g.pop(0), 2);
        CHECK.same("C and WHOLE stay", Scene.now(g), "3 1 bounds 0,1,55,0 1,2,3,1 2,3,2,0 levels");
        CHECK.same("CONFLICT stays", Scene.conflict(g), "1 0");
        CHECK.dueAll("IMAGES stay", new long[] {g.count(0), g.back(1)}, 2, 4);
    }

    static void promise19WhatWentSpeaksAgainstNone() {
        Subject g = new Subject();
        g.push();
        g.add(0, 1, 3, 0);
        CHECK.due("refused", g.add(1, 0, -4, 0), GapBounds.STATE);
        g.pop(0);
        CHECK.due("taken", g.add(1, 0, -4, 0), 1);
        CHECK.due("implied", g.implied(0, 1, 0), GapBounds.NOTHING);
    }

    static void promise20LevelFrom0ToTheLast() {
        CHECK.words(20, "BOUNDS at a LEVEL. BAD.");
        for (int n : new int[] {-1, 2, 3, 8, LOWEST, HIGHEST}) {
            CHECK.refused("level(" + n + ") of 2", Scene::rich, g -> g.level(n), GapBounds.BAD);
        }
        CHECK.due("level(0) of none", new Subject().level(0), GapBounds.BAD);
        Subject g = Scene.rich();
        CHECK.dueAll("level(0), (1)", new long[] {g.level(0), g.level(1)}, 3, 4);
        Subject eight = Scene.stacked();
        CHECK.dueAll("level(7), (8)", new long[] {eight.level(7), eight.level(8)}, 5, GapBounds.BAD);
        eight.pop(5);
        CHECK.dueAll("behind pop(5)", new long[] {eight.level(4), eight.level(5)}, 5, GapBounds.BAD);
    }
}
