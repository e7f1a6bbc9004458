import java.io.IOException;
import java.lang.reflect.InvocationTargetException;
import java.lang.reflect.Method;
import java.nio.charset.StandardCharsets;
import java.nio.file.Files;
import java.nio.file.Path;
import java.util.Arrays;
import java.util.List;
import java.util.Set;
import java.util.TreeSet;
import java.util.regex.Matcher;
import java.util.regex.Pattern;

/** README.md tells the truth: its examples answer as it says, its calls and answers are those of the document. */
public final class ReadmeTest {
    private static final Check CHECK = new Check();
    private static final Pattern EXAMPLES = Pattern.compile("(?s)```java\n(.*?)```");
    private static final Pattern MADE = Pattern.compile("GapBounds g = new GapBounds\\(\\);");
    private static final Pattern FED = Pattern.compile("for \\(char c : \"([^\"]*)\"\\.toCharArray\\(\\)\\) g\\.feed\\(c\\);");
    private static final Pattern CALLED = Pattern.compile("g\\.(\\w+)\\(([-\\d, ]*)\\); *// (-?\\d+)(:.*)?");
    private static final Pattern PROMISE = Pattern.compile("(?s)## Promise \\d+: (\\w+)\n(.*?)(?=\n## )");
    private static final Pattern FACE = Pattern.compile("public (?:int|long) (\\w+)\\(([^)]*)\\);");
    private static final Pattern NAMED = Pattern.compile("`(\\w+\\([a-z, ]*\\))`");
    private static final Pattern WORD = Pattern.compile("`(\\w+)`");
    private static final List<String> ANSWERS = List.of("BAD", "STATE", "FULL", "NONE", "OVER", "NOTHING");

    private static GapBounds g = null;

    public static void main(String[] args) throws IOException, IllegalAccessException, NoSuchFieldException {
        String readme = load("README.md");
        String doc = load("../shared/DOC.md");
        examples(readme);
        calls(readme, doc);
        for (String name : ANSWERS) {
            answer(readme, doc, name);
        }
        CHECK.isTrue("how its tests are run", readme.contains("\n.ci/run\n"));
        CHECK.close("ReadmeTest");
    }

    private static String load(String name) throws IOException {
        return Files.readString(Path.of(name), StandardCharsets.UTF_8);
    }

    private static void examples(String readme) throws IllegalAccessException {
        int found = 0;
        for (Matcher block = EXAMPLES.matcher(readme); block.find(); found++) {
            g = null;
            for (String line : block.group(1).split("\n")) {
                example(line);
            }
        }
        CHECK.isTrue("there are examples", found > 0);
    }

    private static void example(String line) throws IllegalAccessException {
        Matcher fed = FED.matcher(line);
        Matcher called = CALLED.matcher(line);
        if (MADE.matcher(line).matches()) {
            g = new GapBounds();
        } else if (g != null && fed.matches()) {
            fed.group(1).chars().forEach(g::feed);
        } else if (g != null && called.matches()) {
            CHECK.due(line, ask(called.group(1), called.group(2)), Long.parseLong(called.group(3)));
        } else {
            CHECK.isTrue("an example that can be run: " + line, false);
        }
    }

    private static long ask(String name, String numbers) throws IllegalAccessException {
        Object[] given = Arrays.stream(numbers.split(", *")).filter(n -> !n.isEmpty()).map(Integer::valueOf).toArray();
        for (Method m : GapBounds.class.getMethods()) {
            if (m.getName().equals(name) && m.getParameterCount() == given.length) {
                try {
                    return ((Number) m.invoke(g, given)).longValue();
                } catch (InvocationTargetException e) {
                    throw new IllegalStateException(name + " threw", e.getCause());
                }
            }
        }
        throw new IllegalStateException("there is no call " + name + " of " + given.length + " numbers");
    }

    /** The tables name each call of the face once, with its numbers' names. */
    private static void calls(String readme, String doc) {
        Set<String> face = new TreeSet<>();
        for (Matcher m = FACE.matcher(doc); m.find();) {
            face.add(m.group(1) + "(" + m.group(2).replace("int ", "") + ")");
        }
        Set<String> named = new TreeSet<>();
        String tables = section(readme, "### Calls", "### Answers");
        for (Matcher m = NAMED.matcher(tables); m.find();) {
            CHECK.isTrue("named once: " + m.group(1), named.add(m.group(1)));
        }
        CHECK.same("calls", String.join(" ", named), String.join(" ", face));
    }

    /** The row of an answer has its number and just the calls whose promises name it. */
    private static void answer(String readme, String doc, String name) throws IllegalAccessException, NoSuchFieldException {
        String table = section(readme, "### Answers", "## Tests");
        Matcher row = Pattern.compile("\\| `" + name + "` \\| (-?\\d+) \\| [^|]+ \\| ([^|]+) \\|").matcher(table);
        if (!row.find()) {
            CHECK.isTrue("a row of " + name, false);
            return;
        }
        CHECK.due(name, Long.parseLong(row.group(1)), ((Number) GapBounds.class.getField(name).get(null)).longValue());
        boolean others = row.group(2).startsWith("every call but ");
        Set<String> told = new TreeSet<>();
        for (Matcher m = WORD.matcher(row.group(2)); m.find();) {
            told.add(m.group(1));
        }
        CHECK.same("calls of " + name, String.join(" ", told), String.join(" ", promisesThatName(doc, name, !others)));
    }

    private static Set<String> promisesThatName(String doc, String answer, boolean named) {
        Pattern word = Pattern.compile("\\b" + answer + "\\b");
        Set<String> found = new TreeSet<>();
        for (Matcher m = PROMISE.matcher(doc); m.find();) {
            if (word.matcher(m.group(2)).find() == named) {
                found.add(m.group(1));
            }
        }
        return found;
    }

    private static String section(String text, String begin, String end) {
        int from = text.indexOf(begin);
        int to = text.indexOf(end, Math.max(from, 0));
        CHECK.isTrue("README.md has " + begin, from >= 0 && to >= 0);
        return from >= 0 && to >= 0 ? text.substring(from, to) : "";
    }
}
