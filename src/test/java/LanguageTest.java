import java.io.IOException;
import java.lang.reflect.Field;
import java.lang.reflect.Method;
import java.lang.reflect.Modifier;
import java.nio.charset.StandardCharsets;
import java.nio.file.Files;
import java.nio.file.Path;
import java.util.Arrays;
import java.util.List;
import java.util.Set;
import java.util.TreeSet;
import java.util.regex.Pattern;

/** The document's face, and the rules of LANGUAGE.md that the class file and the source's words show. */
public final class LanguageTest {
    private static final Check CHECK = new Check();
    private static final Path SOURCE = Path.of("src/main/java/GapBounds.java");
    private static final String FACE = "int add(int,int,int,int) int back(int) int bound(int,int) int change(int,int) "
            + "int conflict(int) int count(int) int drop(int) int end(int) int fault() int feed(int) int fixed(int,int) "
            + "int grow(int,int) int keep(int) int lay(int,int,int) int level(int) int may(int,int,int,int) int pair(int) "
            + "int pop(int) int push() int read(int,int,int,int) int rule(int) int sheet(int,int,int) int shift(int,int) "
            + "int text() int tightest(int,int) int torn() int ways(int,int) int whole(int) long high(int,int) "
            + "long implied(int,int,int) long limit(int) long reach(int,int,int,int) long room(int,int,int)";
    private static final List<String> NO_WORDS = List.of("throw", "try", "catch", "synchronized", "assert", "native",
            "volatile", "Object", "var", "float", "double", "hashCode", "toString", "Random", "System\\.(?!arraycopy)",
            "Integer", "Long", "package");
    private static final List<String> NO_SIGNS = List.of("->", "::", "Exact", "@");

    public static void main(String[] args) throws IOException {
        face();
        constants();
        members(GapBounds.class);
        nested();
        words();
        CHECK.close("LanguageTest");
    }

    private static void face() {
        Set<String> shown = new TreeSet<>();
        for (Method m : GapBounds.class.getDeclaredMethods()) {
            if (!Modifier.isPrivate(m.getModifiers())) {
                String types = String.join(",", Arrays.stream(m.getParameterTypes()).map(Class::getName).toList());
                shown.add(m.getReturnType().getName() + " " + m.getName() + "(" + types + ")");
                CHECK.due(m.getName() + " is public and no static", m.getModifiers(), Modifier.PUBLIC);
            }
        }
        CHECK.same("the face", String.join(" ", shown), FACE);
        CHECK.due("public final", GapBounds.class.getModifiers(), Modifier.PUBLIC | Modifier.FINAL);
        CHECK.due("one constructor", GapBounds.class.getDeclaredConstructors().length, 1);
        CHECK.due("it is public", GapBounds.class.getConstructors().length, 1);
        CHECK.due("no package", GapBounds.class.getPackageName().length(), 0);
    }

    private static void constants() {
        Set<String> shown = new TreeSet<>();
        for (Field f : GapBounds.class.getFields()) {
            shown.add(f.getType().getName() + " " + f.getName());
        }
        CHECK.same("constants", String.join(", ", shown), "int BAD, int FULL, int NONE, int OVER, int STATE, long NOTHING");
        CHECK.dueAll("constants", new long[] {GapBounds.BAD, GapBounds.STATE, GapBounds.FULL, GapBounds.NONE,
            GapBounds.OVER, GapBounds.NOTHING}, -1, -2, -3, -4, -5, 1000000000000L);
    }

    private static void members(Class<?> type) {
        int held = 0;
        for (Field f : type.getDeclaredFields()) {
            boolean fixed = Modifier.isStatic(f.getModifiers());
            held += fixed ? 0 : 1;
            CHECK.due(f + " static is final", fixed && !Modifier.isFinal(f.getModifiers()) ? 1 : 0, 0);
            boolean hidden = Modifier.isPrivate(f.getModifiers()) || Modifier.isPublic(f.getModifiers());
            CHECK.due(f + " is private", type == GapBounds.class && !hidden ? 1 : 0, 0);
        }
        CHECK.due(type + " has at most 20 fields", held <= 20 ? 1 : 0, 1);
        for (Method m : type.getDeclaredMethods()) {
            boolean shown = type == GapBounds.class && Modifier.isPublic(m.getModifiers());
            boolean named = (" " + FACE).contains(" " + m.getName() + "(");
            CHECK.due(m + " bears no public name", !shown && named ? 1 : 0, 0);
            CHECK.due(m + " takes at most seven", m.getParameterCount() <= 7 ? 1 : 0, 1);
        }
    }

    private static void nested() {
        Class<?>[] inside = GapBounds.class.getDeclaredClasses();
        CHECK.due("at most twelve classes", inside.length < 12 ? 1 : 0, 1);
        for (Class<?> type : inside) {
            int how = type.getModifiers();
            CHECK.due(type + " is static", Modifier.isStatic(how) ? 1 : 0, 1);
            CHECK.due(type + " is not public", Modifier.isPublic(how) || Modifier.isProtected(how) ? 1 : 0, 0);
            members(type);
        }
    }

    private static void words() throws IOException {
        String source = Files.readString(SOURCE, StandardCharsets.UTF_8);
        CHECK.due("signs 1 to 127", source.chars().allMatch(c -> c > 0 && c < 128) ? 1 : 0, 1);
        String code = source.replaceAll("(?s)/\\*.*?\\*/", "").replaceAll("//[^\n]*", "");
        for (String word : NO_WORDS) {
            CHECK.due("the word " + word, Pattern.compile("\\b" + word + "\\b").matcher(code).find() ? 1 : 0, 0);
        }
        for (String sign : NO_SIGNS) {
            CHECK.due("the sign " + sign, code.contains(sign) ? 1 : 0, 0);
        }
        boolean handed = Pattern.compile("\\bnew [A-Z]\\w*\\((?!\\))").matcher(code).find();
        CHECK.due("no constructor is handed a part of another object", handed ? 1 : 0, 0);
        long imports = code.lines().filter(l -> l.startsWith("import ")).count();
        CHECK.due("imports", imports, code.contains("import java.util.Arrays;") ? 1 : 0);
    }
}
