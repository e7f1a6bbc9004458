import java.util.Random;

/** Long runs of calls, answered by the class and by PlainModel. Seeds are fixed: every run is the same. */
public final class ModelTest {
    /** More than the calls of the dearest step but text(), which asks for itself. */
    private static final int STEP_CALLS = 50;
    private static final String[] KEYS = {"most", "less", "least", "over", "same"};
    private static final String[] SCRAPS = {"real;", "real", " ", "?", "12345", "-", ";", "near", "k", "ab", ".", "a a"};

    private final Check check;
    private final Random random;
    private final Subject g = new Subject();
    private final PlainModel m = new PlainModel();
    private final int run;
    private int asked = 0;

    private ModelTest(Check check, int run) {
        this.check = check;
        this.run = run;
        this.random = new Random(run);
    }

    public static void main(String[] args) {
        int runs = args.length > 0 ? Integer.parseInt(args[0]) : 1000;
        int first = args.length > 1 ? Integer.parseInt(args[1]) : 1;
        Check check = new Check();
        for (int run = first; run < first + runs; run++) {
            new ModelTest(check, run).play();
        }
        check.close("ModelTest");
    }

    /** All of an object's calls, the last of them questions about anything. */
    private void play() {
        int questions = STEP_CALLS + random.nextInt(150);
        while (g.left() > questions) {
            switch (random.nextInt(12)) {
                case 0 -> text();
                case 1, 2, 3 -> bounds();
                case 4 -> levels();
                case 5, 6, 7 -> implied();
                case 8 -> images();
                case 9 -> sheets();
                default -> questions();
            }
        }
        while (g.left() > 0) {
            anything();
        }
    }

    private void due(String call, long got, long want) {
        asked++;
        check.due("run " + run + " call " + asked + " " + call, got, want);
    }

    private int pick(int below) {
        return random.nextInt(40) == 0 ? random.nextInt(below + 6) - 3 : random.nextInt(below);
    }

    private int wide() {
        int kind = random.nextInt(run % 5 == 0 ? 6 : 40);
        if (kind == 0) {
            return random.nextInt();
        }
        if (kind == 1) {
            return Integer.MAX_VALUE - random.nextInt(3);
        }
        if (kind == 2) {
            return Integer.MIN_VALUE + random.nextInt(3);
        }
        return random.nextInt(run % 3 == 0 ? 8 : 30) - (run % 3 == 0 ? 2 : 6);
    }

    private void text() {
        StringBuilder all = new StringBuilder();
        int lines = random.nextInt(random.nextInt(6) == 0 ? 30 : 7);
        boolean close = random.nextInt(4) == 0;
        for (int i = 0; i < lines; i++) {
            if (random.nextInt(25) == 0) {
                all.append(SCRAPS[random.nextInt(SCRAPS.length)]);
            }
            if (random.nextInt(12) == 0) {
                all.append("real;");
            }
            all.append(KEYS[random.nextInt(lines > 8 ? 5 : 4)]).append(' ').append((char) ('a' + pick(10))).append(' ')
                    .append((char) ('a' + pick(10))).append(random.nextBoolean() ? " " : "");
            int s = close ? random.nextInt(6) - 3 : random.nextInt(60) - 20;
            all.append(s).append(random.nextInt(40) == 0 ? SCRAPS[random.nextInt(SCRAPS.length)] : "").append(';');
        }
        if (random.nextInt(3) == 0 || all.length() + STEP_CALLS > g.left()) {
            return;
        }
        for (int i = 0; i < all.length(); i++) {
            int c = all.charAt(i);
            g.feed(c);
            m.feed(c);
        }
        if (random.nextInt(6) == 0) {
            int n = random.nextInt(all.length() + 2);
            due("end(" + n + ")", g.end(n), m.end(n));
        }
        due("count(1)", g.count(1), m.count(1));
        due("text() of '" + all + "'", g.text(), m.text());
        due("fault()", g.fault(), m.fault());
        int c = random.nextInt(140) - 5;
        due("feed(" + c + ")", g.feed(c), m.feed(c));
        due("end(0)", g.end(0), m.end(0));
    }

    private void bounds() {
        int x = pick(10);
        int y = pick(10);
        int c = wide();
        int strict = pick(2);
        String of = "(" + x + ", " + y + ", " + c + ", " + strict + ")";
        switch (random.nextInt(9)) {
            case 0 -> due("may" + of, g.may(x, y, c, strict), m.may(x, y, c, strict));
            case 1 -> {
                int k = pick(12);
                due("drop(" + k + ")", g.drop(k), m.drop(k));
            }
            case 2 -> {
                int k = pick(24);
                due("change(" + k + ", " + c + ")", g.change(k, c), m.change(k, c));
            }
            case 3 -> due("shift(" + x + ", " + c + ")", g.shift(x, c), m.shift(x, c));
            case 4 -> due("whole(" + strict + ")", g.whole(strict), m.whole(strict));
            case 5 -> {
                int n = random.nextInt(8) == 0 ? pick(22) : 1 + random.nextInt(3);
                int seed = random.nextInt();
                due("grow(" + seed + ", " + n + ")", g.grow(seed, n), m.grow(seed, n));
            }
            default -> due("add" + of, g.add(x, y, c, strict), m.add(x, y, c, strict));
        }
        for (int i = 0; i <= random.nextInt(4); i++) {
            due("conflict(" + i + ")", g.conflict(i), m.conflict(i));
        }
        due("rule(7)", g.rule(7), m.rule(7));
    }

    private void levels() {
        int n = pick(8);
        switch (random.nextInt(5)) {
            case 0 -> due("pop(" + n + ")", g.pop(n), m.pop(n));
            case 1 -> due("level(" + n + ")", g.level(n), m.level(n));
            default -> due("push()", g.push(), m.push());
        }
    }

    private void implied() {
        int x = pick(10);
        int y = pick(10);
        int what = pick(2);
        String of = "(" + x + ", " + y + ", " + what + ")";
        due("implied" + of, g.implied(x, y, what), m.implied(x, y, what));
        due("room" + of, g.room(x, y, what), m.room(x, y, what));
        due("fixed" + of, g.fixed(x, y), m.fixed(x, y));
        due("high" + of, g.high(x, what), m.high(x, what));
        int t = wide();
        int w = pick(4);
        due("reach" + of + t + " " + w, g.reach(x, y, t, w), m.reach(x, y, t, w));
        if (random.nextInt(4) == 0) {
            int n = 1 + pick(5);
            int top = pick(7);
            due("ways(" + n + ", " + top + ")", g.ways(n, top), m.ways(n, top));
        }
    }

    private void images() {
        int k = pick(2);
        if (random.nextInt(3) == 0) {
            due("back(" + k + ")", g.back(k), m.back(k));
        } else {
            due("keep(" + k + ")", g.keep(k), m.keep(k));
        }
    }

    private void sheets() {
        int k = random.nextInt(8) == 0 ? pick(4) : random.nextInt(2);
        int lane = pick(3);
        if (random.nextInt(3) == 0) {
            int n = random.nextInt(8) == 0 ? random.nextInt(50) - 5 : 4 + random.nextInt(20);
            due("sheet(" + k + ", " + lane + ", " + n + ")", g.sheet(k, lane, n), m.sheet(k, lane, n));
        }
        for (int i = random.nextInt(8); i < 24 && random.nextInt(30) != 0; i++) {
            int v = i % 4 == 2 ? wide() : i % 4 == 3 ? random.nextInt(2) : pick(10);
            due("lay(" + k + ", " + i + ", " + v + ")", g.lay(k, i, v), m.lay(k, i, v));
        }
        for (int i = 0; i < 4; i++) {
            int f = random.nextInt(5) == 0 ? wide() : 4 * random.nextInt(4);
            int n = random.nextInt(5) == 0 ? pick(11) : random.nextInt(4);
            int as = random.nextInt(3);
            due("read(" + k + ", " + as + ", " + f + ", " + n + ")", g.read(k, as, f, n), m.read(k, as, f, n));
            due("torn()", g.torn(), m.torn());
            due("rule(7)", g.rule(7), m.rule(7));
        }
    }

    private void questions() {
        int k = pick(24);
        int what = pick(8);
        due("rule(" + what + ")", g.rule(what), m.rule(what));
        due("bound(" + k + ", " + what + ")", g.bound(k, what), m.bound(k, what));
        due("limit(" + k + ")", g.limit(k), m.limit(k));
        due("pair(" + k + ")", g.pair(k), m.pair(k));
        due("count(" + what + ")", g.count(what), m.count(what));
        int y = pick(10);
        due("tightest(" + k % 10 + ", " + y + ")", g.tightest(k % 10, y), m.tightest(k % 10, y));
    }

    private void anything() {
        int x = random.nextInt(12) - 1;
        int y = random.nextInt(12) - 1;
        int k = random.nextInt(26) - 1;
        int what = random.nextInt(10) - 1;
        switch (random.nextInt(12)) {
            case 0 -> due("rule(" + what + ")", g.rule(what), m.rule(what));
            case 1 -> due("count(" + what + ")", g.count(what), m.count(what));
            case 2 -> due("limit(" + k + ")", g.limit(k), m.limit(k));
            case 3 -> due("pair(" + k + ")", g.pair(k), m.pair(k));
            case 4 -> due("level(" + what + ")", g.level(what), m.level(what));
            case 5 -> due("conflict(" + what + ")", g.conflict(what), m.conflict(what));
            case 6 -> due("fixed(" + x + ", " + y + ")", g.fixed(x, y), m.fixed(x, y));
            case 7 -> due("tightest(" + x + ", " + y + ")", g.tightest(x, y), m.tightest(x, y));
            case 8, 9 -> due("implied(" + x + ", " + y + ", " + what % 3 + ")", g.implied(x, y, what % 3), m.implied(x, y, what % 3));
            default -> due("bound(" + k + ", " + what % 6 + ")", g.bound(k, what % 6), m.bound(k, what % 6));
        }
    }
}
