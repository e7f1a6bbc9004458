/** Promises 4 and 5: a text that is taken, and the FAULTS of one that is not. */
final class TextEdges {
    private static final Check CHECK = EdgesTest.CHECK;
    private static final String[] KINDS = {"most", "less", "least", "over", "same"};
    private static final String[] NO_TOKENS = {"?", "A", "Z", "_", "@", "`", "{", "/", ":", "+", ",", "12345", "00000", "123456789"};
    private static final String[] TOKENS = {"real", "most", "same", "near", "k", "z", "ab", "aa", "a", "j", "7", "1234", "-", ";"};

    private TextEdges() {
    }

    /** A text with a FAULT leaves the one BOUND that was told and an empty tape. */
    private static void fault(String text, int number, int place) {
        Subject g = new Subject();
        g.add(4, 5, 77, 1);
        CHECK.due("text() of '" + text + "'", g.fed(text).text(), -10 - place);
        CHECK.due("fault() of '" + text + "'", g.fault(), number);
        CHECK.due("THE TAPE behind '" + text + "'", g.count(1), 0);
        CHECK.same("what was told, behind '" + text + "'", Scene.now(g), "1 1 bounds 4,5,77,1 levels");
    }

    private static void taken(String text, int lines, String now) {
        Subject g = new Subject();
        g.add(4, 5, 77, 1);
        CHECK.due("text() of '" + text + "'", g.fed(text).text(), lines);
        CHECK.due("fault() of '" + text + "'", g.fault(), 0);
        CHECK.due("THE TAPE behind '" + text + "'", g.count(1), 0);
        CHECK.same("told by '" + text + "'", Scene.now(g), now);
    }

    /** So many lines, one BOUND each, 10 bytes each. */
    private static String lines(int n) {
        return "most a b5;".repeat(n);
    }

    static void promise04AnEmptyTapeTellsAll() {
        CHECK.words(4, "THE TAPE (empty then) tells all: how many lines");
        CHECK.words(4, "text: { line }");
        taken("", 0, "0 1 bounds levels");
        taken(" ", 0, "0 1 bounds levels");
        taken(" ".repeat(320), 0, "0 1 bounds levels");
    }

    static void promise04HowManyLines() {
        taken("real;", 1, "0 0 bounds levels");
        taken("most a b 1;", 1, "1 1 bounds 0,1,1,0 levels");
        taken("same a b 1;", 1, "2 1 bounds 0,1,1,0 1,0,-1,0 levels");
        taken("most a b 1;real;same a b 1;", 3, "3 0 bounds 0,1,1,0 0,1,1,0 1,0,-1,0 levels");
        Subject g = new Subject();
        CHECK.due("24 lines and real", g.fed(lines(24) + "real;").text(), 25);
    }

    static void promise04TheTapeIsEmptyThen() {
        Subject g = new Subject().fed("most a b 5;");
        CHECK.due("taken", g.text(), 1);
        CHECK.due("count(1)", g.count(1), 0);
        CHECK.due("refused", g.fed("most a b").text(), -18);
        CHECK.due("count(1)", g.count(1), 0);
        CHECK.due("the next byte is the first", g.feed('?'), 1);
        CHECK.due("and told alone", g.text(), -10);
    }

    static void promise04WhatWasToldStays() {
        CHECK.words(4, "-10 less the place of its FAULT: that which was told stays.");
        CHECK.words(4, "what is refused changes nothing (but THE TAPE, and as told)");
        String[] texts = {"?", "most A b 1;", "real;most a b 1;real;", "same a a 1;", "least a b 3;most a b 2;",
            "real;most a b 12345;"};
        int[] answers = {-10, -10 - 5, -10 - 16, -10 - 7, -10 - 23, -10 - 14};
        int[] faults = {1, 1, 4, 4, 6, 1};
        for (int i = 0; i < texts.length; i++) {
            String text = texts[i];
            CHECK.refused("text() of " + text, Scene::rich, g -> {
                g.end(0);
                return g.fed(text).text();
            }, answers[i], "fault", "" + faults[i], "bytes", "0", "tape", "0 0 0 1 bounds levels");
        }
        CHECK.refused("text() of 25 BOUNDS", Scene::rich, g -> {
            g.end(0);
            return g.fed("same a b5;".repeat(12) + "most a b 5;").text();
        }, -10 - 120, "fault", "5", "bytes", "0", "tape", "0 0 0 1 bounds levels");
    }

    static void promise04TheFirstAndTheLastPlace() {
        fault("?", 1, 0);
        fault(" ".repeat(319) + "?", 1, 319);
        fault(" ".repeat(318) + "?" + "?", 1, 318);
        fault(" ".repeat(316) + "real", 2, 320);
        fault(" ".repeat(315) + "real", 2, 319);
        fault(lines(12) + " ".repeat(189) + "most a b -8", 2, 320);
        fault("least a b 6;most a b 5;" + " ".repeat(297), 6, 320);
        fault("least a b 6;most a b 5;" + " ".repeat(296), 6, 319);
    }

    static void promise04EachByteByItself() {
        CHECK.words(4, "TOKENS, each as long as may be, blanks (32) between: NAMES (a .. z), NUMBERS (1 to 4 figures), one of - ;");
        CHECK.words(4, "1 no TOKEN");
        for (int c = 0; c < 128; c++) {
            boolean token = c >= 'a' && c <= 'z' || c >= '0' && c <= '9' || c == '-' || c == ';';
            Subject g = new Subject();
            g.feed(c);
            CHECK.due("text() of byte " + c, g.text(), c == 32 ? 0 : -10);
            CHECK.due("fault() of byte " + c, g.fault(), c == 32 ? 0 : token ? 2 : 1);
        }
    }

    static void promise04JustByte32IsABlank() {
        taken("  most  a  b  5  ;  ", 1, "1 1 bounds 0,1,5,0 levels");
        taken("most a b5;", 1, "1 1 bounds 0,1,5,0 levels");
        taken("most a b-5;", 1, "1 1 bounds 0,1,-5,0 levels");
        taken("most a b - 5;real ;", 2, "1 0 bounds 0,1,-5,0 levels");
        for (int c : new int[] {0, 8, 9, 10, 11, 12, 13, 31, 33, 127}) {
            fault("most a" + (char) c + "b 5;", 1, 6);
            fault("most a b 5;" + (char) c, 1, 11);
        }
    }

    static void promise04TokensAreAsLongAsMayBe() {
        fault("mosta b 5;", 2, 0);
        fault("most ab 5;", 2, 5);
        fault("most a bc 5;", 2, 7);
        fault("realmost a b 5;", 2, 0);
        fault("most a b 5 6;", 2, 11);
        taken("most a b 56;", 1, "1 1 bounds 0,1,56,0 levels");
        taken("most a b 0056;", 1, "1 1 bounds 0,1,56,0 levels");
        fault("most a b --5;", 2, 10);
        fault("real;;", 2, 5);
    }

    static void promise04NumbersOf1To4Figures() {
        CHECK.words(4, "a NUMBER that is too long (its first byte).");
        taken("most a b 0;", 1, "1 1 bounds 0,1,0,0 levels");
        taken("most a b 9;", 1, "1 1 bounds 0,1,9,0 levels");
        taken("most a b 999;", 1, "1 1 bounds 0,1,999,0 levels");
        taken("most a b 9999;", 1, "1 1 bounds 0,1,9999,0 levels");
        taken("most a b 0000;", 1, "1 1 bounds 0,1,0,0 levels");
        taken("most a b -9999;", 1, "1 1 bounds 0,1,-9999,0 levels");
        fault("most a b 10000;", 1, 9);
        fault("most a b 00000;", 1, 9);
        fault("most a b 00001;", 1, 9);
        fault("most a b -10000;", 1, 10);
        fault("most a b 99999999999999999999;", 1, 9);
        fault("most a b   10000;", 1, 11);
        fault("most a b 10000", 1, 9);
    }

    static void promise04ANumberTooLongIsNoTokenWhereverItStands() {
        fault("12345", 1, 0);
        fault("1234", 2, 0);
        fault("most 12345", 1, 5);
        fault("most 1234", 2, 5);
        fault("real 12345", 1, 5);
        fault("real 1234", 2, 5);
        fault("most a b 1 12345", 1, 11);
        fault("most a b 1 1234", 2, 11);
    }

    static void promise04NamesOfLines() {
        CHECK.words(4, "line: real ; | K V V S ; K: most | less | least | over | same");
        CHECK.words(4, "2 a TOKEN that can not stand there (a NAME that begins no line, is no V");
        for (String name : new String[] {"mos", "mostt", "leas", "leasts", "les", "lesss", "lest", "ove", "overr", "sam",
            "samee", "rea", "reall", "near", "teal", "lost", "mess", "beast", "aver", "fame", "reel", "moat", "leass", "mosu", "m", "a", "z", "same" + "same"}) {
            fault(name + " a b 1;", 2, 0);
        }
        for (String kind : KINDS) {
            Subject g = new Subject();
            CHECK.due(kind, g.fed(kind + " a b 1;").text(), 1);
        }
    }

    static void promise04ThingsAToJ() {
        CHECK.words(4, "V: a .. j");
        for (int v = 0; v < 26; v++) {
            char name = (char) ('a' + v);
            String first = "most " + name + " b 1;";
            String second = "most b " + name + " 1;";
            if (v < 10 && v != 1) {
                taken(first, 1, "1 1 bounds " + v + ",1,1,0 levels");
                taken(second, 1, "1 1 bounds 1," + v + ",1,0 levels");
            } else if (v >= 10) {
                fault(first, 2, 5);
                fault(second, 2, 7);
            }
        }
        fault("most ` b 1;", 1, 5);
        fault("most aa b 1;", 2, 5);
        fault("most a bb 1;", 2, 7);
    }

    static void promise04SHasASignOrNone() {
        CHECK.words(4, "S: [ - ] N");
        taken("most a b -1;", 1, "1 1 bounds 0,1,-1,0 levels");
        taken("most a b -0;", 1, "1 1 bounds 0,1,0,0 levels");
        fault("most a b ;", 2, 9);
        fault("most a b -;", 2, 10);
        fault("most a b +1;", 1, 9);
        fault("most a b 1-;", 2, 10);
        fault("most a b a;", 2, 9);
        fault("most a b -a;", 2, 10);
    }

    /** Each TOKEN of a line in turn is another, or none, or the text's end. */
    static void promise04EachTokenMustStandThere() {
        for (String kind : KINDS) {
            String[] line = {kind, "b", "c", "-", "5", ";"};
            StringBuilder ahead = new StringBuilder();
            for (int i = 0; i < line.length; i++) {
                for (String no : NO_TOKENS) {
                    fault(ahead + no + " 1;", 1, ahead.length());
                }
                for (String token : TOKENS) {
                    if (!stands(i, token)) {
                        fault(ahead + token + " 1;", 2, ahead.length());
                    }
                }
                if (i > 0) {
                    fault(ahead.toString(), 2, ahead.length());
                    fault(ahead.toString().strip(), 2, ahead.length() - 1);
                }
                ahead.append(line[i]).append(' ');
            }
            for (String token : TOKENS) {
                if (!stands(0, token)) {
                    fault(ahead + token, 2, ahead.length());
                }
            }
            CHECK.due("the whole line", new Subject().fed(ahead.toString()).text(), 1);
        }
    }

    private static boolean stands(int i, String token) {
        boolean number = token.matches("[0-9]+");
        switch (i) {
            case 0: return token.equals("real") || token.equals("most") || token.equals("same");
            case 1:
            case 2: return token.equals("a") || token.equals("j");
            case 3: return token.equals("-") || number;
            case 4: return number;
            default: return token.equals(";");
        }
    }

    static void promise04RealIsFollowedByItsEnd() {
        for (String token : TOKENS) {
            if (!token.equals(";")) {
                fault("real " + token, 2, 5);
            }
        }
        for (String no : NO_TOKENS) {
            fault("real " + no, 1, 5);
        }
        taken("real;", 1, "0 0 bounds levels");
    }

    static void promise04TheEndIsAtTheLength() {
        CHECK.words(4, "or the end: the length).");
        fault("real", 2, 4);
        fault("real ", 2, 5);
        fault("real   ", 2, 7);
        fault("most", 2, 4);
        fault("most a", 2, 6);
        fault("most a b", 2, 8);
        fault("most a b -", 2, 10);
        fault("most a b 5", 2, 10);
        fault("most a b 5 ", 2, 11);
        fault("real;most a b 5", 2, 15);
    }

    static void promise04RealWhereverItIsTold() {
        CHECK.words(4, "real: WHOLE is 0 (wherever it is told).");
        taken("real;less a b 1;less b a 0;", 3, "2 0 bounds 0,1,1,1 1,0,0,1 levels");
        taken("less a b 1;real;less b a 0;", 3, "2 0 bounds 0,1,1,1 1,0,0,1 levels");
        taken("less a b 1;less b a 0;real;", 3, "2 0 bounds 0,1,1,1 1,0,0,1 levels");
        fault("less a b 1;less b a 0;", 6, 22);
    }

    static void promise04WithoutRealNumbersAreWhole() {
        Subject g = new Subject().told("real;");
        CHECK.due("rule(1)", g.rule(1), 0);
        CHECK.due("text()", g.fed("most a b 1;").text(), 1);
        CHECK.due("rule(1)", g.rule(1), 1);
    }

    static void promise04MostLessLeastOver() {
        CHECK.words(4, "most: a BOUND more: the first V less the second no more than S; less: STRICT.");
        CHECK.words(4, "least, over: the second less the first no more than (less than) S turned about.");
        for (int s : new int[] {-9999, -1, 0, 1, 9999}) {
            taken("most c d " + s + ";", 1, "1 1 bounds 2,3," + s + ",0 levels");
            taken("less c d " + s + ";", 1, "1 1 bounds 2,3," + s + ",1 levels");
            taken("least c d " + s + ";", 1, "1 1 bounds 3,2," + -s + ",0 levels");
            taken("over c d " + s + ";", 1, "1 1 bounds 3,2," + -s + ",1 levels");
        }
    }

    static void promise04SameIsMostThenLeast() {
        CHECK.words(4, "same: most, then least.");
        for (int s : new int[] {-9999, -1, 0, 1, 9999}) {
            taken("same c d " + s + ";", 1, "2 1 bounds 2,3," + s + ",0 3,2," + -s + ",0 levels");
        }
    }

    static void promise04RealForTheSecondTime() {
        CHECK.words(4, "4 real for the second time (its NAME)");
        fault("real;real;", 4, 5);
        fault("real;real", 4, 5);
        fault("real; real?", 4, 6);
        fault("real;most a b 1;real;", 4, 16);
        fault("most a b 1;real;real;real;", 4, 16);
        fault("real;near", 2, 5);
        fault("real;?", 1, 5);
    }

    static void promise04TheSecondVAsTheFirst() {
        CHECK.words(4, "the second V as the first (it).");
        for (String kind : KINDS) {
            int at = kind.length() + 3;
            fault(kind + " a a 1;", 4, at);
            fault(kind + " j j 1;", 4, at);
            fault(kind + " j j", 4, at);
            fault(kind + " j j?", 4, at);
            fault(kind + " k k 1;", 2, at - 2);
            fault(kind + " j jj 1;", 2, at);
        }
        taken("most a b 1;most a b 1;", 2, "2 1 bounds 0,1,1,0 0,1,1,0 levels");
    }

    static void promise04The25thBound() {
        CHECK.words(4, "5 the 25th BOUND (the NAME of its line");
        CHECK.words(4, "BOUNDS 0 on (24 at most), by order");
        for (String kind : new String[] {"most", "less", "least", "over"}) {
            String line = kind + " a c -5;";
            CHECK.due("23 and " + kind, new Subject().fed(lines(23) + line).text(), 24);
            fault(lines(24) + line, 5, 240);
            fault(lines(24) + "  " + line, 5, 242);
            fault(lines(24) + "real;" + line, 5, 245);
            fault(lines(24) + line + line, 5, 240);
        }
        CHECK.due("24 and real", new Subject().fed(lines(24) + "real;").text(), 25);
        CHECK.due("24 and blanks", new Subject().fed(lines(24) + "  ").text(), 24);
    }

    static void promise04The25thBoundOfSame() {
        CHECK.words(4, "of same, also if just its second one is).");
        CHECK.due("22 and same", new Subject().fed(lines(22) + "same a c 5;").text(), 23);
        CHECK.due("12 of same", new Subject().fed("same a b5;".repeat(12)).text(), 12);
        fault(lines(23) + "same a c 5;", 5, 230);
        fault(lines(23) + "  same a c 5;", 5, 232);
        fault(lines(24) + "same a c 5;", 5, 240);
        fault("same a b5;".repeat(12) + "same a b5;", 5, 120);
        fault("same a b5;".repeat(11) + "most a b5;" + "same a b5;", 5, 120);
        CHECK.due("22 of same and two", new Subject().fed("same a b5;".repeat(11) + lines(2)).text(), 13);
    }

    static void promise04The25thBoundIsMetAtItsName() {
        CHECK.words(4, "FAULTS, the first met as it is read (a TOKEN is read when the one before has been taken)");
        fault(lines(24) + "most", 5, 240);
        fault(lines(24) + "most?", 5, 240);
        fault(lines(24) + "most k b 5;", 5, 240);
        fault(lines(24) + "most a a 5;", 5, 240);
        fault(lines(24) + "near", 2, 240);
        fault(lines(24) + "7", 2, 240);
        fault(lines(24) + "?", 1, 240);
        fault("real;" + lines(24) + "real;", 4, 245);
    }

    static void promise04TheFirstMet() {
        fault("near ?", 2, 0);
        fault("? near", 1, 0);
        fault("most k ?", 2, 5);
        fault("most a ? a", 1, 7);
        fault("most a a 12345", 4, 7);
        fault("most a b 12345 most", 1, 9);
        fault("most a b 1 most a a", 2, 11);
        fault("real;real 12345", 4, 5);
        fault("least a b 3;most a b 2;most", 2, 27);
        fault("least a b 3;most a b 2;?", 1, 23);
        fault("least a b 3;most a b 2;real;real;", 4, 28);
    }

    static void promise04TheyCanNotAllHold() {
        CHECK.words(4, "Behind all (the length): 6 they can not all hold.");
        CHECK.words(4, "All BOUNDS can hold just when no CIRCLE is below nothing; only such come.");
        fault("most a b 1;most b a -2;", 6, 23);
        taken("most a b 1;most b a -1;", 2, "2 1 bounds 0,1,1,0 1,0,-1,0 levels");
        fault("most a b 1;most b a -2;  ", 6, 25);
        fault("most a b 1;most b a -2;most c d 1;", 6, 34);
        fault("less a b 1;most b a -1;", 6, 23);
        fault("real;less a b 1;most b a -1;", 6, 28);
        fault("most a b 1;less b a -1;real;", 6, 28);
        taken("real;less a b 1;less b a 0;", 3, "2 0 bounds 0,1,1,1 1,0,0,1 levels");
        fault("over a b 1;over b a -1;real;", 6, 28);
    }

    static void promise04TheLongestCircle() {
        CHECK.words(4, "A CIRCLE is a ROW that ends where it begins.");
        String chain = "most a b0;most b c0;most c d0;most d e0;most e f0;most f g0;most g h0;most h i0;most i j0;";
        fault(chain + "most j a-1;", 6, 101);
        CHECK.due("nothing in all", new Subject().fed(chain + "most j a-0;").text(), 10);
        fault(chain + "less j a0;", 6, 100);
        fault(chain + "less j a0;real;", 6, 105);
        CHECK.due("1 in all, with an EDGE", new Subject().fed(chain + "less j a1;real;").text(), 11);
        String back = "most j i0;most i h0;most h g0;most g f0;most f e0;most e d0;most d c0;most c b0;most b a0;";
        fault(back + "most a j-1;", 6, 101);
    }

    static void promise04ATextThatIsTakenTellsAll() {
        CHECK.words(4, "A text that is taken tells all, in place of what there was; there are no LEVELS, no CONFLICT; IMAGES are gone.");
        Subject g = Scene.rich();
        CHECK.due("text()", g.text(), 1);
        CHECK.same("BOUNDS, WHOLE, LEVELS", Scene.now(g), "1 1 bounds 7,8,4,1 levels");
        CHECK.due("rule(7)", g.rule(7), 0);
        CHECK.due("conflict(0)", g.conflict(0), GapBounds.NONE);
        CHECK.due("count(0)", g.count(0), 0);
        CHECK.dueAll("back(0), (1)", new long[] {g.back(0), g.back(1)}, GapBounds.STATE, GapBounds.STATE);
        CHECK.dueAll("keep(0), (1)", new long[] {g.keep(0), g.keep(1)}, 0, 0);
    }

    static void promise04ATextLeavesSheetsAndTorn() {
        Subject g = Scene.rich();
        g.text();
        CHECK.due("torn()", g.torn(), 2);
        CHECK.due("count(2)", g.count(2), 8);
        CHECK.due("read(0, 0, 0, 2)", g.read(0, 0, 0, 2), 2);
        CHECK.due("read(2, 2, 0, 1)", g.read(2, 2, 0, 1), 1);
    }

    static void promise04AnEmptyTextForgetsAll() {
        Subject g = Scene.rich();
        g.end(0);
        CHECK.due("text()", g.text(), 0);
        CHECK.same("nothing is left", Check.state(g), "0 1 bounds levels conflict images 0");
    }

    static void promise05FaultOfTheLatestText() {
        CHECK.words(5, "The FAULT of the latest text(); 0.");
        Subject g = new Subject();
        CHECK.due("fault() ahead of any text()", g.fault(), 0);
        String[] texts = {"?", "near", "real;real;", "least a b 1;most a b 0;", "most a b 1;", "most a a 1;", ""};
        int[] faults = {1, 2, 4, 6, 0, 4, 0};
        for (int i = 0; i < texts.length; i++) {
            g.fed(texts[i]);
            CHECK.due("fault() stays till text()", g.fault(), i == 0 ? 0 : faults[i - 1]);
            g.text();
            CHECK.due("fault() of '" + texts[i] + "'", g.fault(), faults[i]);
            CHECK.due("fault() again", g.fault(), faults[i]);
        }
        CHECK.due("fault() of 25 BOUNDS", g.fed(lines(25)).text() * 0 + g.fault(), 5);
    }

    static void promise05OtherCallsLeaveIt() {
        Subject g = new Subject().fed("near");
        g.text();
        g.feed(-1);
        g.end(-1);
        g.add(0, 0, 0, 0);
        g.lay(0, 0, 0);
        g.read(0, 0, 0, 1);
        g.keep(0);
        g.back(0);
        CHECK.due("fault()", g.fault(), 2);
        Subject other = new Subject();
        other.lay(0, 0, 0);
        other.read(0, 0, 0, 1);
        CHECK.due("what the machine finds is not of text()", other.fault(), 0);
    }
}
