import java.lang.reflect.InvocationTargetException;
import java.lang.reflect.Method;
import java.lang.reflect.Modifier;
import java.util.Arrays;
import java.util.Comparator;
import java.util.List;

/**
 * Each sentence of the document has a test of its own: each static method of the classes here that has
 * no parameters and is not private is one. It begins with the promise and the words that it is about, and this test
 * tells which words of the document no test is about.
 */
public final class EdgesTest {
    private static final List<Class<?>> EDGES = List.of(ParkEdges.class, SlideEdges.class, TextEdges.class, UndoEdges.class,
        LookEdges.class, PlanEdges.class, WouldBeEdges.class, TermEdges.class);

    public static void main(String[] args) throws IllegalAccessException {
        for (Class<?> edges : EDGES) {
            Method[] tests = edges.getDeclaredMethods();
            Arrays.sort(tests, Comparator.comparing(Method::getName));
            for (Method test : tests) {
                boolean isHelper = Modifier.isPrivate(test.getModifiers()) || test.isSynthetic();
                if (!isHelper && Modifier.isStatic(test.getModifiers()) && test.getParameterCount() == 0) {
                    run(test);
                }
            }
        }
        Check.aboutNothing();
        Check.same("terms and promises", Document.sections(), Document.PROMISES + 1);
        for (String words : Document.wordsWithoutTest()) {
            Check.same("words without a test", words, "");
        }
        Check.end("EdgesTest");
    }

    private static void run(Method test) throws IllegalAccessException {
        Check.aboutNothing();
        int before = Check.count();
        String name = test.getDeclaringClass().getSimpleName() + "." + test.getName();
        try {
            test.invoke(null);
        } catch (InvocationTargetException e) {
            Check.same(name + " ends", "throws " + e.getCause(), "ends");
        }
        Check.same(name + " names its promise", Check.isAboutNothing(), false);
        Check.same(name + " checks something", Check.count() > before + 2, true);
    }
}
