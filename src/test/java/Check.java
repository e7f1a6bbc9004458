import java.lang.reflect.InvocationTargetException;
import java.lang.reflect.Method;
import java.util.Arrays;
import java.util.Comparator;
import java.util.LinkedHashMap;
import java.util.Map;
import java.util.function.Supplier;
import java.util.function.ToLongFunction;

/** What the tests share: comparisons that count, and tests that are named after what they test. */
final class Check {
    private int wrong = 0;
    private int asked = 0;
    private String heading = "";

    private void miss(String what) {
        wrong++;
        System.out.println(heading + what);
    }

    void due(String call, long got, long want) {
        asked++;
        if (got != want) {
            miss(call + " answered " + got + ", due is " + want);
        }
    }

    /** Several calls' answers at once, in their order. */
    void dueAll(String calls, long[] got, long... want) {
        due(calls + ": how many", got.length, want.length);
        for (int i = 0; i < Math.min(got.length, want.length); i++) {
            due(calls + " [" + i + "]", got[i], want[i]);
        }
    }

    void dueText(Subject g, String text, int want, int fault) {
        g.fed(text);
        due("text() of '" + text + "'", g.text(), want);
        due("fault() of '" + text + "'", g.fault(), fault);
        due("count(1) behind '" + text + "'", g.count(1), 0);
    }

    void same(String what, String got, String want) {
        asked++;
        if (!got.equals(want)) {
            miss(what + ": got '" + got + "', due is '" + want + "'");
        }
    }

    void isTrue(String what, boolean got) {
        due(what, got ? 1 : 0, 1);
    }

    /** BOUNDS, WHOLE, LEVELS, CONFLICT and how many IMAGES there are. */
    static String state(Subject g) {
        String now = Scene.now(g);
        String conflict = Scene.conflict(g);
        return now + " conflict" + (conflict.isEmpty() ? "" : " ") + conflict + " images " + g.count(0);
    }

    /** The words of the document that the answers behind this are due to. */
    void words(int promise, String words) {
        isTrue("promise " + promise + " says: " + words, Doc.quote(promise, words));
    }

    /**
     * A call on such an object answers so and changes nothing: all parts are as those of a twin without the call,
     * but for those that are told behind it, each by its name and what it becomes.
     */
    void refused(String call, Supplier<Subject> scene, ToLongFunction<Subject> asking, long want, String... changed) {
        Subject touched = scene.get();
        due(call, asking.applyAsLong(touched), want);
        Map<String, String> parts = new LinkedHashMap<>(Scene.tell(scene.get()));
        for (int i = 0; i + 1 < changed.length; i += 2) {
            same(call + " changes what is another: " + changed[i], "" + changed[i + 1].equals(parts.get(changed[i])), "false");
            parts.put(changed[i], changed[i + 1]);
        }
        Map<String, String> got = Scene.tell(touched);
        parts.forEach((part, due) -> same(call + " leaves " + part, got.get(part), due));
    }

    /** Runs all of a class's methods whose names begin with "promise", each as a test of its own; how many. */
    int runAll(Class<?> tests) {
        Method[] all = Arrays.stream(tests.getDeclaredMethods()).filter(m -> m.getName().startsWith("promise"))
                .sorted(Comparator.comparing(Method::getName)).toArray(Method[]::new);
        for (Method m : all) {
            heading = tests.getName() + "." + m.getName() + ": ";
            try {
                m.setAccessible(true);
                m.invoke(null);
            } catch (InvocationTargetException e) {
                miss("threw " + e.getCause());
            } catch (IllegalAccessException e) {
                miss("can not be run: " + e);
            }
            heading = "";
        }
        return all.length;
    }

    void close(String name) {
        System.out.println(name + ": " + asked + " answers, " + wrong + " not as due");
        if (wrong != 0) {
            System.exit(1);
        }
    }
}
