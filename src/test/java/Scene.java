import java.util.LinkedHashMap;
import java.util.Map;

/** An object that holds something of everything, and a telling of all that an object holds. */
final class Scene {
    private Scene() {
    }

    /**
     * 5 BOUNDS of any numbers, LEVELS at 3 and 4, CONFLICT 1 0, both IMAGES, SHEETS of each lane and one of nothing,
     * FAULT 2 of text(), FAULT 2 of read(), and a line on THE TAPE: no two of them alike.
     */
    static Subject rich() {
        Subject g = new Subject().told("real;most a b 5;less b c 3;most c d 2;");
        g.push();
        g.keep(0);
        g.add(3, 4, 7, 1);
        g.push();
        g.keep(1);
        g.add(4, 5, 9, 0);
        g.add(2, 0, -8, 0);
        g.laid(0, 0, 5, 6, -3, 0, 6, 7, 4, 1);
        g.laid(1, 1, 7, 8, 300, 0, 1);
        g.laid(2, 2, 8, 9, 70000, 1);
        g.read(1, 1, 2, 1);
        g.fed("near").text();
        return g.fed("less h i 4;");
    }

    /** The same with 24 BOUNDS. */
    static Subject full() {
        return rich().filled(19, 6, 9, 11);
    }

    /** The same with 8 LEVELS. */
    static Subject stacked() {
        Subject g = rich();
        for (int i = 0; i < 6; i++) {
            g.push();
        }
        return g;
    }

    /** BOUNDS, WHOLE and LEVELS. */
    static String now(Subject g) {
        int bounds = g.rule(0);
        StringBuilder all = new StringBuilder().append(bounds).append(' ').append(g.rule(1)).append(" bounds");
        for (int k = 0; k < bounds; k++) {
            all.append(' ').append(g.bound(k, 0)).append(',').append(g.bound(k, 1)).append(',').append(g.limit(k))
                    .append(',').append(g.bound(k, 2));
        }
        all.append(" levels");
        int levels = g.rule(2);
        for (int n = 0; n < levels; n++) {
            all.append(' ').append(g.level(n));
        }
        return all.toString();
    }

    /** CONFLICT, its BOUNDS one by one. */
    static String conflict(Subject g) {
        StringBuilder all = new StringBuilder();
        int size = g.rule(7);
        for (int i = 0; i < size; i++) {
            all.append(i == 0 ? "" : " ").append(g.conflict(i));
        }
        return all.toString();
    }

    /** All that the object holds, part by part. What is hidden is asked for by using it: the object is spent then. */
    static Map<String, String> tell(Subject g) {
        Map<String, String> parts = new LinkedHashMap<>();
        parts.put("now", now(g));
        parts.put("conflict", conflict(g));
        parts.put("fault", "" + g.fault());
        parts.put("torn", "" + g.torn());
        parts.put("images", "" + g.count(0));
        parts.put("bytes", "" + g.count(1));
        parts.put("cells", "" + g.count(2));
        for (int k = 0; k < 2; k++) {
            parts.put("image " + k, g.back(k) + " " + now(g));
        }
        parts.put("tape", g.text() + " " + g.fault() + " " + now(g));
        for (int k = 0; k < 4; k++) {
            parts.put("sheet " + k, sheet(g, k));
        }
        return parts;
    }

    /** An empty text makes room for the BOUNDS that the SHEET tells. */
    private static String sheet(Subject g, int k) {
        StringBuilder all = new StringBuilder().append(g.text());
        for (int lane = 0; lane < 3; lane++) {
            all.append(' ').append(g.read(k, lane, 0, 3)).append(' ').append(g.torn());
        }
        return all.append(' ').append(g.read(k, 1, 1, 1)).append(' ').append(now(g)).toString();
    }
}
