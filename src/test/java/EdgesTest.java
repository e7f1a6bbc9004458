import java.lang.reflect.Method;
import java.util.List;

/** Each sentence of the document that names a boundary case, in a test of its own that bears its promise's number. */
public final class EdgesTest {
    static final Check CHECK = new Check();
    private static final List<Class<?>> TESTS = List.of(NewEdges.class, TapeEdges.class, TextEdges.class, QuestionEdges.class,
            BoundsEdges.class, LevelsEdges.class, ImpliedEdges.class, GrowEdges.class, SheetsEdges.class, ReadEdges.class);

    private EdgesTest() {
    }

    public static void main(String[] args) {
        int ran = 0;
        for (Class<?> tests : TESTS) {
            ran += CHECK.runAll(tests);
        }
        for (int promise = 1; promise <= Doc.PROMISES; promise++) {
            CHECK.isTrue("promise " + promise + " has a test", testsOf(promise) > 0);
            CHECK.same("words of promise " + promise + " that no test quotes", Doc.unquoted(promise), "");
        }
        CHECK.same("words of the terms that no test quotes", Doc.unquotedTerms(), "");
        System.out.println("EdgesTest: " + ran + " tests");
        CHECK.close("EdgesTest");
    }

    private static int testsOf(int promise) {
        String begin = String.format("promise%02d", promise);
        int found = 0;
        for (Class<?> tests : TESTS) {
            for (Method m : tests.getDeclaredMethods()) {
                found += m.getName().startsWith(begin) ? 1 : 0;
            }
        }
        return found;
    }
}
