/** Promises 11 to 20: bounds that come, go and change; levels. */
public final class BoundsTest {
    private static final Check CHECK = new Check();
    private static final int LOWEST = Integer.MIN_VALUE;
    private static final int HIGHEST = Integer.MAX_VALUE;

    public static void main(String[] args) {
        add();
        addEnds();
        addFull();
        may();
        conflictFewest();
        conflictFirst();
        conflictStays();
        drop();
        change();
        shift();
        whole();
        levels();
        CHECK.close("BoundsTest");
    }

    private static void add() {
        Subject g = new Subject();
        CHECK.due("add(-1, 1)", g.add(-1, 1, 0, 0), GapBounds.BAD);
        CHECK.due("add(10, 1)", g.add(10, 1, 0, 0), GapBounds.BAD);
        CHECK.due("add(1, -1)", g.add(1, -1, 0, 0), GapBounds.BAD);
        CHECK.due("add(1, 10)", g.add(1, 10, 0, 0), GapBounds.BAD);
        CHECK.due("add(1, 1)", g.add(1, 1, 5, 0), GapBounds.BAD);
        CHECK.due("add strict 2", g.add(1, 2, 5, 2), GapBounds.BAD);
        CHECK.due("add strict -1", g.add(1, 2, 5, -1), GapBounds.BAD);
        CHECK.due("add", g.add(1, 2, 5, 1), 1);
        CHECK.due("add the other way", g.add(2, 1, -4, 0), 2);
        CHECK.due("add what can not be", g.add(2, 1, -5, 0), GapBounds.STATE);
        CHECK.due("add less than -4", g.add(2, 1, -4, 1), GapBounds.STATE);
        CHECK.same("refused changes nothing", Check.state(g), "2 1 bounds 1,2,5,1 2,1,-4,0 levels conflict 0 images 0");
        CHECK.due("add again the same", g.add(2, 1, -4, 0), 3);
        g.whole(0);
        CHECK.due("real: -4 against less than 5 could be less", g.add(2, 1, -5, 0), GapBounds.STATE);
        CHECK.due("real: less than -4", g.add(2, 1, -4, 1), 4);
    }

    private static void addEnds() {
        Subject g = new Subject();
        CHECK.due("lowest, STRICT", g.add(0, 1, LOWEST, 1), 1);
        CHECK.due("highest: the sum is -2", g.add(1, 0, HIGHEST, 0), GapBounds.STATE);
        CHECK.due("round about", g.add(1, 2, HIGHEST, 0), 2);
        CHECK.due("round about: -1", g.add(2, 0, 1, 0), GapBounds.STATE);
        CHECK.due("round about: 0", g.add(2, 0, 2, 0), 3);
        CHECK.due("chain down", g.add(3, 0, LOWEST, 0), 4);
        CHECK.due("chain down", g.add(4, 3, LOWEST, 0), 5);
        CHECK.due("far above 32 bits", g.may(1, 4, HIGHEST, 0), 0);
        CHECK.due("implied beyond 32 bits", g.implied(4, 1, 0), 3L * LOWEST - 1);
    }

    private static void addFull() {
        Subject g = new Subject();
        for (int i = 1; i <= 24; i++) {
            CHECK.due("add " + i, g.add(0, 1, 7, 0), i);
        }
        CHECK.due("the 25th", g.add(0, 1, 7, 0), GapBounds.FULL);
        CHECK.due("FULL is ahead of STATE", g.add(1, 0, -8, 0), GapBounds.FULL);
        CHECK.due("so CONFLICT is not told", g.rule(7), 0);
        CHECK.due("BAD is ahead of FULL", g.add(1, 1, 0, 0), GapBounds.BAD);
        CHECK.due("may() asks for no room", g.may(0, 2, 7, 0), 1);
        CHECK.due("may() the other way", g.may(1, 0, -8, 0), 0);
        CHECK.due("drop", g.drop(23), 23);
        CHECK.due("room again", g.add(0, 1, 7, 0), 24);
    }

    private static void may() {
        Subject g = new Subject().told("most a b 3;less b c 2;");
        CHECK.due("may(2, 0, -4, 0)", g.may(2, 0, -4, 0), 1);
        CHECK.due("may(2, 0, -5, 0)", g.may(2, 0, -5, 0), 0);
        CHECK.due("may(2, 0, -4, 1)", g.may(2, 0, -4, 1), 0);
        CHECK.due("may(2, 0, -3, 1)", g.may(2, 0, -3, 1), 1);
        g.whole(0);
        CHECK.due("real: may(2, 0, -5, 0)", g.may(2, 0, -5, 0), 0);
        CHECK.due("real: may(2, 0, -4, 1)", g.may(2, 0, -4, 1), 1);
        CHECK.due("real: may(2, 0, -5, 1)", g.may(2, 0, -5, 1), 0);
        CHECK.due("may the way of a bound", g.may(0, 1, LOWEST, 1), 1);
        CHECK.same("may() changes nothing", Check.state(g), "2 0 bounds 0,1,3,0 1,2,2,1 levels conflict images 0");
        CHECK.due("may(0, 0)", g.may(0, 0, 0, 0), GapBounds.BAD);
        CHECK.due("may(10, 0)", g.may(10, 0, 0, 0), GapBounds.BAD);
        CHECK.due("may(0, -1)", g.may(0, -1, 0, 0), GapBounds.BAD);
        CHECK.due("may strict 2", g.may(0, 1, 0, 2), GapBounds.BAD);
    }

    private static void conflictFewest() {
        Subject g = new Subject().told("most a b 0;most b c 0;most a c 3;");
        CHECK.due("the longer ROW alone speaks against it", g.add(2, 0, -1, 0), GapBounds.STATE);
        CHECK.dueAll("conflict", new long[] {g.rule(7), g.conflict(0), g.conflict(1), g.conflict(2)},
                2, 1, 0, GapBounds.NONE);
        CHECK.due("both do: the shorter is told", g.add(2, 0, -4, 0), GapBounds.STATE);
        CHECK.dueAll("conflict", new long[] {g.rule(7), g.conflict(0), g.conflict(1)}, 1, 2, GapBounds.NONE);
        CHECK.due("conflict(-1)", g.conflict(-1), GapBounds.BAD);
        Subject nothing = new Subject().told("most a b 0;most b c 0;most a c 1;");
        CHECK.due("a shorter ROW comes to just nothing", nothing.add(2, 0, -1, 0), GapBounds.STATE);
        CHECK.dueAll("conflict", new long[] {nothing.rule(7), nothing.conflict(0), nothing.conflict(1)}, 2, 1, 0);
        Subject ring = new Subject().told("most i j0;most h i0;most g h0;most f g0;most e f0;most d e0;most c d0;most b c0;most a b0;");
        CHECK.due("nine BOUNDS", ring.add(9, 0, -1, 0), GapBounds.STATE);
        CHECK.due("rule(7)", ring.rule(7), 9);
        for (int i = 0; i < 9; i++) {
            CHECK.due("conflict(" + i + ")", ring.conflict(i), i);
        }
        CHECK.due("conflict(9)", ring.conflict(9), GapBounds.NONE);
    }

    private static void conflictFirst() {
        Subject g = new Subject().told("most a b 9;most a b 2;most a b 1;most b c 5;most a d 0;most d c 0;most b c 0;");
        CHECK.due("refused", g.add(2, 0, -3, 0), GapBounds.STATE);
        CHECK.dueAll("the first by the numbers, from its x on", new long[] {g.rule(7), g.conflict(0), g.conflict(1)}, 2, 5, 4);
        g.drop(4);
        CHECK.due("refused", g.add(2, 0, -3, 0), GapBounds.STATE);
        CHECK.dueAll("each step as low as the rest allows", new long[] {g.rule(7), g.conflict(0), g.conflict(1)}, 2, 5, 1);
        CHECK.due("refused", g.add(2, 0, -7, 0), GapBounds.STATE);
        CHECK.dueAll("a low first step", new long[] {g.rule(7), g.conflict(0), g.conflict(1)}, 2, 3, 2);
        CHECK.due("refused", g.add(2, 0, -9999, 0), GapBounds.STATE);
        CHECK.dueAll("all would do", new long[] {g.rule(7), g.conflict(0), g.conflict(1)}, 2, 3, 0);
    }

    private static void conflictStays() {
        Subject g = new Subject().told("most c d 1;most a b 1;most a b 2;");
        CHECK.due("refused", g.add(1, 0, -2, 0), GapBounds.STATE);
        CHECK.due("conflict", g.conflict(0), 1);
        g.drop(0);
        CHECK.due("by the number it had", g.conflict(0), 1);
        g.add(5, 6, 1, 0);
        g.may(1, 0, -3, 0);
        g.grow(5, 20);
        g.whole(0);
        g.push();
        g.pop(0);
        g.keep(0);
        g.back(0);
        g.add(5, 5, 1, 0);
        CHECK.due("it stays", g.conflict(0), 1);
        CHECK.due("it stays", g.rule(7), 1);
    }

    private static void drop() {
        Subject g = new Subject();
        CHECK.due("drop of none", g.drop(0), GapBounds.BAD);
        g.add(0, 1, 10, 0);
        g.push();
        g.add(1, 2, 11, 1);
        g.push();
        g.add(2, 3, 12, 0);
        g.push();
        CHECK.due("drop(-1)", g.drop(-1), GapBounds.BAD);
        CHECK.due("drop(3)", g.drop(3), GapBounds.BAD);
        CHECK.due("drop(1)", g.drop(1), 2);
        CHECK.same("the rest moves up", Check.state(g), "2 1 bounds 0,1,10,0 2,3,12,0 levels 1 1 2 conflict images 0");
        CHECK.due("drop the last", g.drop(1), 1);
        CHECK.same("levels", Check.state(g), "1 1 bounds 0,1,10,0 levels 1 1 1 conflict images 0");
        CHECK.due("drop the first", g.drop(0), 0);
        CHECK.same("levels", Check.state(g), "0 1 bounds levels 0 0 0 conflict images 0");
        g.add(0, 1, 5, 0);
        CHECK.due("what spoke against it has gone", g.add(1, 0, -6, 0), GapBounds.STATE);
        g.drop(0);
        CHECK.due("what spoke against it has gone", g.add(1, 0, -6, 0), 1);
    }

    private static void change() {
        Subject g = new Subject().told("most a b 5;less b c 1;most c a 9;most b a 3;");
        CHECK.due("change(-1)", g.change(-1, 0), GapBounds.BAD);
        CHECK.due("change(4)", g.change(4, 0), GapBounds.BAD);
        CHECK.due("change(0, -3)", g.change(0, -3), 1);
        CHECK.due("limit(0)", g.limit(0), -3);
        CHECK.due("change(0, -4)", g.change(0, -4), GapBounds.STATE);
        CHECK.dueAll("conflict", new long[] {g.limit(0), g.rule(7), g.conflict(0)}, -3, 1, 3);
        CHECK.due("change(3, HIGHEST)", g.change(3, HIGHEST), 1);
        CHECK.due("change(0, -9)", g.change(0, -9), 1);
        CHECK.due("change(0, -10): STRICT counts", g.change(0, -10), GapBounds.STATE);
        CHECK.dueAll("conflict", new long[] {g.rule(7), g.conflict(0), g.conflict(1)}, 2, 2, 1);
        CHECK.due("change(1, LOWEST)", g.change(1, LOWEST), GapBounds.STATE);
        CHECK.dueAll("conflict by the others", new long[] {g.rule(7), g.conflict(0), g.conflict(1)}, 2, 0, 2);
        CHECK.due("change(1, 2)", g.change(1, 2), 1);
        CHECK.due("it stays STRICT", g.bound(1, 2), 1);
        CHECK.due("change(0, -10)", g.change(0, -10), 1);
        CHECK.due("CONFLICT stays", g.conflict(0), 0);
    }

    private static void shift() {
        Subject g = new Subject().told("most a b 5;less b a 3;most c d 1;most c a 2;");
        CHECK.due("shift(-1)", g.shift(-1, 1), GapBounds.BAD);
        CHECK.due("shift(10)", g.shift(10, 1), GapBounds.BAD);
        CHECK.due("shift(9, 1) of no BOUND", g.shift(9, HIGHEST), 0);
        CHECK.due("shift(0, 7)", g.shift(0, 7), 3);
        CHECK.same("shifted", Check.state(g), "4 1 bounds 0,1,12,0 1,0,-4,1 2,3,1,0 2,0,-5,0 levels conflict images 0");
        CHECK.due("shift(0, HIGHEST) leaves at one BOUND", g.shift(0, HIGHEST), GapBounds.OVER);
        CHECK.same("unchanged", Check.state(g), "4 1 bounds 0,1,12,0 1,0,-4,1 2,3,1,0 2,0,-5,0 levels conflict images 0");
        CHECK.due("shift to the very end", g.shift(3, -(HIGHEST - 1)), 1);
        CHECK.due("limit(2)", g.limit(2), HIGHEST);
        CHECK.due("one more", g.shift(3, -1), GapBounds.OVER);
        CHECK.due("and back by all", g.shift(2, LOWEST), GapBounds.OVER);
        g.drop(3);
        CHECK.due("and back by all", g.shift(2, LOWEST), 1);
        CHECK.due("limit(2)", g.limit(2), -1);
        CHECK.due("to the lowest", g.shift(3, HIGHEST), 1);
        CHECK.due("limit(2)", g.limit(2), LOWEST);
        CHECK.due("one less", g.shift(2, -1), GapBounds.OVER);
        CHECK.due("less LOWEST is beyond", g.shift(3, 1), GapBounds.OVER);
        CHECK.due("less LOWEST is within", g.shift(3, LOWEST), 1);
        CHECK.due("limit(2)", g.limit(2), 0);
        CHECK.due("shift by 0", g.shift(0, 0), 2);
    }

    private static void whole() {
        Subject g = new Subject().told("less a b 1;less b a 1;");
        CHECK.due("whole(2)", g.whole(2), GapBounds.BAD);
        CHECK.due("whole(-1)", g.whole(-1), GapBounds.BAD);
        CHECK.due("whole(1)", g.whole(1), 1);
        CHECK.due("whole(0)", g.whole(0), 1);
        CHECK.due("less than 0 both ways", g.add(1, 0, 0, 1), 3);
        CHECK.due("whole(1)", g.whole(1), GapBounds.STATE);
        CHECK.due("rule(1)", g.rule(1), 0);
        CHECK.due("CONFLICT is not told", g.rule(7), 0);
        CHECK.due("whole(0)", g.whole(0), 0);
        g.drop(2);
        CHECK.due("whole(1)", g.whole(1), 0);
        CHECK.due("rule(1)", g.rule(1), 1);
        CHECK.due("fixed by whole numbers", g.fixed(0, 1), 1);
    }

    private static void levels() {
        Subject g = new Subject();
        CHECK.due("pop(0)", g.pop(0), GapBounds.BAD);
        CHECK.due("level(0)", g.level(0), GapBounds.BAD);
        for (int i = 1; i <= 8; i++) {
            CHECK.due("push " + i, g.push(), i);
            g.add(0, 1, i, 0);
        }
        CHECK.due("the 9th", g.push(), GapBounds.FULL);
        CHECK.due("rule(2)", g.rule(2), 8);
        CHECK.due("level(0)", g.level(0), 0);
        CHECK.due("level(7)", g.level(7), 7);
        CHECK.due("level(8)", g.level(8), GapBounds.BAD);
        CHECK.due("level(-1)", g.level(-1), GapBounds.BAD);
        CHECK.due("pop(-1)", g.pop(-1), GapBounds.BAD);
        CHECK.due("pop(8)", g.pop(8), GapBounds.BAD);
        CHECK.due("pop(7)", g.pop(7), 1);
        CHECK.due("level(7) is gone", g.level(7), GapBounds.BAD);
        CHECK.due("pop(2)", g.pop(2), 5);
        CHECK.same("as at LEVEL 2", Check.state(g), "2 1 bounds 0,1,1,0 0,1,2,0 levels 0 1 conflict images 0");
        g.whole(0);
        g.change(0, 50);
        CHECK.due("pop(1)", g.pop(1), 1);
        CHECK.same("just how many goes back", Check.state(g), "1 0 bounds 0,1,50,0 levels 0 conflict images 0");
        CHECK.due("push", g.push(), 2);
        CHECK.due("pop(1) of none", g.pop(1), 0);
        CHECK.due("pop(0)", g.pop(0), 1);
        CHECK.due("rule(0)", g.rule(0), 0);
    }
}
