/** Promises 2 and 3: THE TAPE. */
final class TapeEdges {
    private static final Check CHECK = EdgesTest.CHECK;
    private static final int LOWEST = Integer.MIN_VALUE, HIGHEST = Integer.MAX_VALUE;

    private TapeEdges() {
    }

    private static Subject fullTape() {
        return new Subject().fed("most a b 5;" + " ".repeat(309));
    }

    static void promise02FeedTakesBytes0To127() {
        CHECK.words(2, "A byte (0 to 127) comes behind THE TAPE: how many it has.");
        Subject g = new Subject();
        for (int c = 0; c <= 127; c++) {
            CHECK.due("feed(" + c + ")", g.feed(c), c + 1);
        }
        CHECK.due("count(1)", g.count(1), 128);
    }

    static void promise02FeedBelow0AndAbove127IsBad() {
        CHECK.words(2, "BAD");
        for (int c : new int[] {-1, 128, -128, 255, 256, 256 + 'a', LOWEST, HIGHEST, LOWEST + 'a'}) {
            CHECK.refused("feed(" + c + ")", Scene::rich, g -> g.feed(c), GapBounds.BAD);
        }
        Subject g = new Subject().fed("most a b 5");
        CHECK.due("feed(128)", g.feed(128), GapBounds.BAD);
        CHECK.due("feed(-1)", g.feed(-1), GapBounds.BAD);
        CHECK.due("feed(;) comes at once behind", g.feed(';'), 11);
        CHECK.due("text()", g.text(), 1);
    }

    static void promise02FeedComesBehind() {
        Subject g = new Subject();
        CHECK.due("text()", g.fed("less a b 123").fed("4;").text(), 1);
        CHECK.due("limit(0)", g.limit(0), 1234);
    }

    static void promise02The321stByteIsFull() {
        CHECK.words(2, "FULL: more than 320.");
        CHECK.words(2, "FULL -3");
        CHECK.words(2, "THE TAPE has 320 bytes, places from 0.");
        Subject g = new Subject();
        for (int i = 1; i <= 320; i++) {
            CHECK.due("feed, byte " + i, g.feed(' '), i);
        }
        CHECK.due("the 321st", g.feed(' '), GapBounds.FULL);
        CHECK.due("the 321st again", g.feed(';'), GapBounds.FULL);
        CHECK.due("count(1)", g.count(1), 320);
    }

    static void promise02FullChangesNothing() {
        Subject g = fullTape();
        CHECK.due("feed('?') on 320 bytes", g.feed('?'), GapBounds.FULL);
        CHECK.due("count(1)", g.count(1), 320);
        CHECK.due("text() has no '?'", g.text(), 1);
        CHECK.due("limit(0)", g.limit(0), 5);
    }

    static void promise02BadIsAheadOfFull() {
        CHECK.words(2, "Answers:");
        CHECK.words(2, "the first that fits");
        Subject g = fullTape();
        CHECK.due("feed(-1)", g.feed(-1), GapBounds.BAD);
        CHECK.due("feed(128)", g.feed(128), GapBounds.BAD);
        CHECK.due("feed(127)", g.feed(127), GapBounds.FULL);
        CHECK.due("feed(0)", g.feed(0), GapBounds.FULL);
    }

    static void promise02RoomAgainBehindEndAndText() {
        Subject g = fullTape();
        CHECK.due("end(319)", g.end(319), 320);
        CHECK.due("feed", g.feed(' '), 320);
        CHECK.due("feed", g.feed(' '), GapBounds.FULL);
        CHECK.due("text()", g.text(), 1);
        CHECK.due("feed", g.feed(' '), 1);
    }

    static void promise03EndKeepsTheFirstBytes() {
        CHECK.words(3, "THE TAPE keeps its first n bytes: how many it had.");
        Subject g = new Subject().fed("most a b 5;less");
        CHECK.due("end(11)", g.end(11), 15);
        CHECK.due("count(1)", g.count(1), 11);
        CHECK.due("what is fed comes behind them", g.feed(' '), 12);
        CHECK.due("text()", g.text(), 1);
        CHECK.due("limit(0)", g.limit(0), 5);
    }

    static void promise03EndFrom0ToWhatItHas() {
        CHECK.words(3, "BAD.");
        for (int n : new int[] {-1, 12, 13, 320, 321, LOWEST, HIGHEST}) {
            CHECK.refused("end(" + n + ") of 11", Scene::rich, g -> g.end(n), GapBounds.BAD);
        }
        Subject all = new Subject().fed("most a b 5;");
        CHECK.due("end(11) of 11", all.end(11), 11);
        CHECK.due("text()", all.text(), 1);
        Subject one = new Subject().fed("most a b 5;");
        CHECK.due("end(10) of 11", one.end(10), 11);
        CHECK.due("text() of 10", one.text(), -20);
        Subject none = new Subject().fed("most a b 5;");
        CHECK.due("end(1)", none.end(1), 11);
        CHECK.due("end(0)", none.end(0), 1);
        CHECK.due("text() of none", none.text(), 0);
    }

    static void promise03EndOfAnEmptyTape() {
        Subject g = new Subject();
        CHECK.due("end(0)", g.end(0), 0);
        CHECK.due("end(1)", g.end(1), GapBounds.BAD);
        CHECK.due("end(-1)", g.end(-1), GapBounds.BAD);
        g.fed("near").text();
        CHECK.due("end(0) behind text()", g.end(0), 0);
        CHECK.due("end(1) behind text()", g.end(1), GapBounds.BAD);
    }

    static void promise03EndOfAFullTape() {
        Subject g = fullTape();
        CHECK.due("end(321)", g.end(321), GapBounds.BAD);
        CHECK.due("end(320)", g.end(320), 320);
        CHECK.due("count(1)", g.count(1), 320);
        CHECK.due("end(319)", g.end(319), 320);
        CHECK.due("end(320)", g.end(320), GapBounds.BAD);
        CHECK.due("count(1)", g.count(1), 319);
    }
}
