/** Promises 1 to 10: a new object, THE TAPE, the text and what it tells. */
public final class TextTest {
    private static final Check CHECK = new Check();

    public static void main(String[] args) {
        newObject();
        feed();
        end();
        textTaken();
        textKinds();
        textReplacesAll();
        faultOne();
        faultTwo();
        faultFour();
        faultFive();
        faultSix();
        faultStays();
        rule();
        bound();
        limit();
        tightest();
        pair();
        CHECK.close("TextTest");
    }

    private static void newObject() {
        Subject g = new Subject();
        CHECK.same("new", Check.state(g), "0 1 bounds levels conflict images 0");
        for (int what = 3; what <= 5; what++) {
            CHECK.due("new rule(" + what + ")", g.rule(what), 0);
        }
        CHECK.due("new rule(6)", g.rule(6), 10);
        CHECK.due("new count(1)", g.count(1), 0);
        CHECK.due("new fault()", g.fault(), 0);
        CHECK.due("new torn()", g.torn(), 0);
        for (int k = 0; k < 4; k++) {
            CHECK.due("new lay(" + k + ")", g.lay(k, 0, 0), -11);
        }
        CHECK.due("new count(2)", g.count(2), GapBounds.NONE);
        CHECK.due("new back(0)", g.back(0), GapBounds.STATE);
        CHECK.due("new back(1)", g.back(1), GapBounds.STATE);
    }

    private static void feed() {
        Subject g = new Subject();
        CHECK.due("feed(-1)", g.feed(-1), GapBounds.BAD);
        CHECK.due("feed(128)", g.feed(128), GapBounds.BAD);
        CHECK.due("feed(256 + 32)", g.feed(288), GapBounds.BAD);
        CHECK.due("feed(0)", g.feed(0), 1);
        CHECK.due("feed(127)", g.feed(127), 2);
        for (int i = 3; i <= 320; i++) {
            CHECK.due("feed to " + i, g.feed(' '), i);
        }
        CHECK.due("feed the 321st", g.feed(' '), GapBounds.FULL);
        CHECK.due("BAD is ahead of FULL", g.feed(128), GapBounds.BAD);
        CHECK.due("count(1) full", g.count(1), 320);
        CHECK.due("text() of a full tape: the 0 is no TOKEN", g.text(), -10);
        CHECK.due("feed behind text()", g.feed(' '), 1);
    }

    private static void end() {
        Subject g = new Subject();
        CHECK.due("end(0) of an empty tape", g.end(0), 0);
        CHECK.due("end(1) of an empty tape", g.end(1), GapBounds.BAD);
        g.fed("most a b 5;x");
        CHECK.due("end(-1)", g.end(-1), GapBounds.BAD);
        CHECK.due("end(13)", g.end(13), GapBounds.BAD);
        CHECK.due("end(12) keeps all", g.end(12), 12);
        CHECK.due("end(11)", g.end(11), 12);
        CHECK.due("count(1)", g.count(1), 11);
        CHECK.due("text()", g.text(), 1);
        CHECK.due("limit(0)", g.limit(0), 5);
    }

    private static void textTaken() {
        Subject g = new Subject();
        CHECK.dueText(g, "", 0, 0);
        CHECK.dueText(g, "   ", 0, 0);
        CHECK.dueText(g, "most a b 5;", 1, 0);
        CHECK.dueText(g, "  most   a  b5  ;  ", 1, 0);
        CHECK.due("b5 is two TOKENS", g.limit(0), 5);
        CHECK.dueText(g, "most a b - 7 ;real;", 2, 0);
        CHECK.due("- 7", g.limit(0), -7);
        CHECK.due("real behind", g.rule(1), 0);
        CHECK.dueText(g, "most j a 9999;most a j-9999;", 2, 0);
        CHECK.same("ends of V and N", Check.state(g), "2 1 bounds 9,0,9999,0 0,9,-9999,0 levels conflict images 0");
        CHECK.dueText(g, "most a b 0007;", 1, 0);
        CHECK.due("0007", g.limit(0), 7);
        CHECK.dueText(g, "most a b -0;", 1, 0);
        CHECK.due("-0", g.limit(0), 0);
        CHECK.dueText(g, "", 0, 0);
        CHECK.due("an empty text tells all", g.rule(0), 0);
        StringBuilder lines = new StringBuilder("real;");
        for (int i = 0; i < 24; i++) {
            lines.append("most a b").append(i).append(';');
        }
        Subject most = new Subject();
        CHECK.dueText(most, lines.toString(), 25, 0);
        CHECK.due("24 BOUNDS", most.rule(0), 24);
    }

    private static void textKinds() {
        Subject g = new Subject().told("most a b 1;less c d 2;least e f 3;over g h -4;same i j 5;");
        CHECK.same("kinds", Check.state(g),
                "6 1 bounds 0,1,1,0 2,3,2,1 5,4,-3,0 7,6,4,1 8,9,5,0 9,8,-5,0 levels conflict images 0");
        CHECK.due("STRICT ones", g.count(3), 2);
    }

    private static void textReplacesAll() {
        Subject g = new Subject().told("real;most a b 5;");
        g.push();
        g.keep(0);
        g.keep(1);
        g.sheet(0, 1, 7);
        g.lay(0, 0, 3);
        g.read(0, 0, 0, 1);
        g.add(1, 0, -6, 0);
        CHECK.same("ahead", Check.state(g), "1 0 bounds 0,1,5,0 levels 1 conflict 0 images 2");
        CHECK.dueText(g, "most c d 1;most", -10 - 15, 2);
        CHECK.same("what was told stays", Check.state(g), "1 0 bounds 0,1,5,0 levels 1 conflict 0 images 2");
        CHECK.dueText(g, "most c d 1;", 1, 0);
        CHECK.same("all is new", Check.state(g), "1 1 bounds 2,3,1,0 levels conflict images 0");
        CHECK.due("back(0)", g.back(0), GapBounds.STATE);
        CHECK.due("SHEETS stay", g.count(2), 7);
        CHECK.due("torn() stays", g.torn(), 3);
    }

    private static void faultOne() {
        CHECK.dueText(new Subject(), "?", -10, 1);
        CHECK.dueText(new Subject(), "`", -10, 1);
        CHECK.dueText(new Subject(), "{", -10, 1);
        CHECK.dueText(new Subject(), "/", -10, 1);
        CHECK.dueText(new Subject(), ":", -10, 1);
        CHECK.dueText(new Subject(), "  A", -12, 1);
        CHECK.dueText(new Subject(), "\n", -10, 1);
        CHECK.dueText(new Subject(), "most\ta", -14, 1);
        CHECK.dueText(new Subject(), ".", -10, 1);
        CHECK.dueText(new Subject(), "12345", -10, 1);
        CHECK.dueText(new Subject(), "most a b 12345", -19, 1);
        CHECK.dueText(new Subject(), "most a b -00001;", -20, 1);
        CHECK.dueText(new Subject(), "most a b 1;_", -21, 1);
        CHECK.dueText(new Subject(), "most a b 1_;", -20, 1);
        CHECK.dueText(new Subject(), "real_;", -14, 1);
        CHECK.dueText(new Subject(), "most_a b 1;", -14, 1);
        CHECK.dueText(new Subject(), "most a_b 1;", -16, 1);
        CHECK.dueText(new Subject(), "most a b_1;", -18, 1);
        CHECK.dueText(new Subject(), "most a b -_1;", -20, 1);
    }

    private static void faultTwo() {
        CHECK.dueText(new Subject(), "near", -10, 2);
        CHECK.dueText(new Subject(), "mosta b 1;", -10, 2);
        CHECK.dueText(new Subject(), "lost a b 1;", -10, 2);
        CHECK.dueText(new Subject(), "moss a b 1;", -10, 2);
        CHECK.dueText(new Subject(), "zz", -10, 2);
        CHECK.dueText(new Subject(), "az9", -10, 2);
        CHECK.dueText(new Subject(), "mos", -10, 2);
        CHECK.dueText(new Subject(), "mostt a b 1;", -10, 2);
        CHECK.dueText(new Subject(), "1", -10, 2);
        CHECK.dueText(new Subject(), ";", -10, 2);
        CHECK.dueText(new Subject(), "-", -10, 2);
        CHECK.dueText(new Subject(), "a", -10, 2);
        CHECK.dueText(new Subject(), "real", -14, 2);
        CHECK.dueText(new Subject(), "real  ", -16, 2);
        CHECK.dueText(new Subject(), "real real;", -15, 2);
        CHECK.dueText(new Subject(), "real;;", -15, 2);
        CHECK.dueText(new Subject(), "most", -14, 2);
        CHECK.dueText(new Subject(), "most k b 1;", -15, 2);
        CHECK.dueText(new Subject(), "most ab 1;", -15, 2);
        CHECK.dueText(new Subject(), "most a ab 1;", -17, 2);
        CHECK.dueText(new Subject(), "most 1 b 1;", -15, 2);
        CHECK.dueText(new Subject(), "most a 1;", -17, 2);
        CHECK.dueText(new Subject(), "most a", -16, 2);
        CHECK.dueText(new Subject(), "most a b", -18, 2);
        CHECK.dueText(new Subject(), "most a b;", -18, 2);
        CHECK.dueText(new Subject(), "most a b -;", -20, 2);
        CHECK.dueText(new Subject(), "most a b c;", -19, 2);
        CHECK.dueText(new Subject(), "most a b --1;", -20, 2);
        CHECK.dueText(new Subject(), "most a b -", -20, 2);
        CHECK.dueText(new Subject(), "most a b 1", -20, 2);
        CHECK.dueText(new Subject(), "most a b 1 ", -21, 2);
        CHECK.dueText(new Subject(), "most a b 1-;", -20, 2);
        CHECK.dueText(new Subject(), "most a b 1 most", -21, 2);
        CHECK.dueText(new Subject(), "most a b 1 12345;", -21, 1);
    }

    private static void faultFour() {
        CHECK.dueText(new Subject(), "real;most a b 1;real", -26, 4);
        CHECK.dueText(new Subject(), "real;real_", -15, 4);
        CHECK.dueText(new Subject(), "most c c", -17, 4);
        CHECK.dueText(new Subject(), "same c  c_", -18, 4);
        CHECK.dueText(new Subject(), "over j j 1;", -17, 4);
    }

    private static void faultFive() {
        Subject g = new Subject();
        String same = "same a b5;";
        CHECK.dueText(g, same.repeat(12), 12, 0);
        CHECK.due("24 BOUNDS of same", g.rule(0), 24);
        CHECK.dueText(new Subject(), same.repeat(12) + "real;", 13, 0);
        CHECK.dueText(new Subject(), same.repeat(12) + "most a b 6;", -130, 5);
        CHECK.dueText(new Subject(), same.repeat(12) + " same a b 5;", -131, 5);
        CHECK.dueText(new Subject(), same.repeat(11) + "most a b 6;" + same, -10 - 121, 5);
        CHECK.dueText(new Subject(), same.repeat(11) + "most a b 6;" + "most a b 6;", 13, 0);
        CHECK.dueText(new Subject(), same.repeat(12) + "near", -130, 2);
        CHECK.dueText(new Subject(), same.repeat(12) + "most a a", -130, 5);
    }

    private static void faultSix() {
        CHECK.dueText(new Subject(), "least a b 3;most a b 2;", -33, 6);
        CHECK.dueText(new Subject(), "least a b 3;most a b 2;  ", -35, 6);
        CHECK.dueText(new Subject(), "least a b 3;most a b 2;?", -33, 1);
        CHECK.dueText(new Subject(), "less a b 1;less b a 1;", 2, 0);
        CHECK.dueText(new Subject(), "less a b 1;less b a 0;", -32, 6);
        CHECK.dueText(new Subject(), "less a b 1;less b a 0;real;", 3, 0);
        CHECK.dueText(new Subject(), "real;less a b 0;most b a 0;", -37, 6);
        CHECK.dueText(new Subject(), "real;most a b 0;most b a 0;", 3, 0);
        CHECK.dueText(new Subject(), "most a b 1;most b c 1;most c d 1;most d a-4;", -10 - 44, 6);
        CHECK.dueText(new Subject(), "most a b 1;most b c 1;most c d 1;most d a-3;", 4, 0);
        String ring = "most a b0;most b c0;most c d0;most d e0;most e f0;most f g0;most g h0;most h i0;most i j0;";
        CHECK.dueText(new Subject(), ring + "most j a0;", 10, 0);
        CHECK.dueText(new Subject(), ring + "less j a0;", -10 - 100, 6);
        CHECK.dueText(new Subject(), "real;" + ring + "less j a0;", -10 - 105, 6);
    }

    private static void faultStays() {
        Subject g = new Subject();
        CHECK.dueText(g, "near", -10, 2);
        g.feed('?');
        g.add(0, 1, 1, 0);
        CHECK.due("fault() is of the latest text()", g.fault(), 2);
        CHECK.due("text()", g.text(), -10);
        CHECK.due("fault()", g.fault(), 1);
        CHECK.due("text() of nothing", g.text(), 0);
        CHECK.due("fault()", g.fault(), 0);
    }

    private static void rule() {
        Subject g = new Subject().told("most a b 5;most b a 5;most a b 6;same c d 1;same d e -2;less f g 5;");
        CHECK.dueAll("rule", new long[] {g.rule(0), g.rule(1), g.rule(2), g.rule(3), g.rule(4), g.rule(5), g.rule(6)},
                8, 1, 0, 7, 6, 1, 8);
        CHECK.due("rule(-1)", g.rule(-1), GapBounds.BAD);
        CHECK.due("rule(8)", g.rule(8), GapBounds.BAD);
        g.push();
        g.push();
        CHECK.due("rule(2)", g.rule(2), 2);
        g.whole(0);
        CHECK.due("rule(1)", g.rule(1), 0);
        g.add(2, 4, -2, 0);
        CHECK.due("rule(7)", g.rule(7), 2);
        Subject twins = new Subject().told("most a b 5;most a b 5;");
        CHECK.due("of two alike both are NEEDLESS", twins.rule(5), 2);
        Subject ring = new Subject().told("most a b 2;most b c -1;most c a -1;");
        CHECK.due("a CIRCLE of nothing fixes all", ring.rule(6), 8);
        Subject edges = new Subject().told("real;less a b 2;most b a -1;");
        CHECK.due("real", edges.rule(6), 10);
    }

    private static void bound() {
        Subject g = new Subject().told("most a b 5;most b c 1;less a c 6;less a b 6;over d a 1;most b a 3;");
        CHECK.dueAll("bound(2)", new long[] {g.bound(2, 0), g.bound(2, 1), g.bound(2, 2), g.bound(2, 3), g.bound(2, 4)},
                0, 2, 1, 0, 1);
        CHECK.dueAll("bound(3)", new long[] {g.bound(3, 0), g.bound(3, 1), g.bound(3, 2), g.bound(3, 3), g.bound(3, 4)},
                0, 1, 1, 1, 2);
        CHECK.due("bound(0, 3) by its twin 3", g.bound(0, 3), 1);
        CHECK.due("bound(4, 0)", g.bound(4, 0), 0);
        CHECK.due("bound(4, 1)", g.bound(4, 1), 3);
        CHECK.due("bound(5, 4) the other way round is another pair", g.bound(5, 4), 1);
        g.whole(0);
        CHECK.due("real: bound(3, 3)", g.bound(3, 3), 1);
        CHECK.due("real: bound(0, 3)", g.bound(0, 3), 0);
        CHECK.due("real: bound(2, 3)", g.bound(2, 3), 0);
        CHECK.due("bound(-1, 0)", g.bound(-1, 0), GapBounds.BAD);
        CHECK.due("bound(6, 0)", g.bound(6, 0), GapBounds.BAD);
        CHECK.due("bound(0, -1)", g.bound(0, -1), GapBounds.BAD);
        CHECK.due("bound(0, 5)", g.bound(0, 5), GapBounds.BAD);
    }

    private static void limit() {
        Subject g = new Subject();
        CHECK.due("limit(0) of none", g.limit(0), GapBounds.NOTHING);
        g.add(0, 1, Integer.MAX_VALUE, 0);
        g.add(2, 3, Integer.MIN_VALUE, 1);
        CHECK.due("limit(0)", g.limit(0), Integer.MAX_VALUE);
        CHECK.due("limit(1)", g.limit(1), Integer.MIN_VALUE);
        CHECK.due("limit(2)", g.limit(2), GapBounds.NOTHING);
        CHECK.due("limit(-1)", g.limit(-1), GapBounds.NOTHING);
    }

    private static void tightest() {
        Subject g = new Subject().told("most a b 5;most a b 4;less a b 5;most a b 4;most b a 1;");
        CHECK.due("whole: 4 and less than 5 are alike", g.tightest(0, 1), 1);
        g.whole(0);
        CHECK.due("real: 4 is less", g.tightest(0, 1), 1);
        CHECK.due("the other way", g.tightest(1, 0), 4);
        CHECK.due("none", g.tightest(0, 2), GapBounds.NONE);
        CHECK.due("tightest(3, 3)", g.tightest(3, 3), GapBounds.BAD);
        CHECK.due("tightest(-1, 3)", g.tightest(-1, 3), GapBounds.BAD);
        CHECK.due("tightest(3, 10)", g.tightest(3, 10), GapBounds.BAD);
        Subject edge = new Subject().told("real;most a b 4;less a b 4;less a b 4;");
        CHECK.due("of alike C that of more EDGES", edge.tightest(0, 1), 1);
    }

    private static void pair() {
        Subject g = new Subject().told("most c b 5;most a b 4;less c b 9;most b c 1;most a b 1;most j i 0;");
        CHECK.dueAll("pair", new long[] {g.pair(0), g.pair(1), g.pair(2), g.pair(3)}, 21, 1, 12, 98);
        CHECK.due("pair(4)", g.pair(4), GapBounds.NONE);
        CHECK.due("pair(-1)", g.pair(-1), GapBounds.BAD);
        g.drop(0);
        CHECK.dueAll("pair", new long[] {g.pair(0), g.pair(1), g.pair(2), g.pair(3)}, 1, 21, 12, 98);
    }
}
