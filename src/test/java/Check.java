/** What the tests share: a comparison that counts, and a text fed byte by byte. */
final class Check {
    private int wrong = 0;
    private int asked = 0;

    void due(String call, long got, long want) {
        asked++;
        if (got != want) {
            wrong++;
            System.out.println(call + " answered " + got + ", due is " + want);
        }
    }

    /** Several calls' answers at once, in their order. */
    void dueAll(String calls, long[] got, long... want) {
        due(calls + ": how many", got.length, want.length);
        for (int i = 0; i < Math.min(got.length, want.length); i++) {
            due(calls + " [" + i + "]", got[i], want[i]);
        }
    }

    void dueText(GapBounds g, String text, int want, int fault) {
        feedAll(g, text);
        due("text() of '" + text + "'", g.text(), want);
        due("fault() of '" + text + "'", g.fault(), fault);
        due("count(1) behind '" + text + "'", g.count(1), 0);
    }

    static void feedAll(GapBounds g, String text) {
        for (int i = 0; i < text.length(); i++) {
            g.feed(text.charAt(i));
        }
    }

    static GapBounds of(String text) {
        GapBounds g = new GapBounds();
        feedAll(g, text);
        if (g.text() < 0) {
            System.out.println("not taken: " + text);
            System.exit(1);
        }
        return g;
    }

    /** All that can be asked of BOUNDS, WHOLE, LEVELS, CONFLICT: alike just when nothing has changed. */
    static String state(GapBounds g) {
        StringBuilder all = new StringBuilder();
        all.append(g.rule(0)).append(' ').append(g.rule(1)).append(" bounds");
        for (int k = 0; k < g.rule(0); k++) {
            all.append(' ').append(g.bound(k, 0)).append(',').append(g.bound(k, 1)).append(',').append(g.limit(k))
                    .append(',').append(g.bound(k, 2));
        }
        all.append(" levels");
        for (int n = 0; n < g.rule(2); n++) {
            all.append(' ').append(g.level(n));
        }
        all.append(" conflict");
        for (int i = 0; i < g.rule(7); i++) {
            all.append(' ').append(g.conflict(i));
        }
        return all.append(" images ").append(g.count(0)).toString();
    }

    void same(String what, String got, String want) {
        asked++;
        if (!got.equals(want)) {
            wrong++;
            System.out.println(what + ": got '" + got + "', due is '" + want + "'");
        }
    }

    void close(String name) {
        System.out.println(name + ": " + asked + " answers, " + wrong + " not as due");
        if (wrong != 0) {
            System.exit(1);
        }
    }
}
