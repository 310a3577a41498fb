import java.lang.reflect.InvocationTargetException;
import java.lang.reflect.Method;
import java.util.ArrayList;
import java.util.Comparator;
import java.util.List;

/** Runs the tests of a class that are marked with Edge. */
final class Edges {
    /** Every class with such tests: SentencesTest looks in them for the sentences of the document. */
    static final List<Class<?>> ALL = List.of(ConfigurationEdgesTest.class, FramesEdgesTest.class,
        BitTimeEdgesTest.class, ErrorEdgesTest.class, NodesEdgesTest.class, ComputationEdgesTest.class,
        MessagesEdgesTest.class, TextEdgesTest.class, SlotsEdgesTest.class);

    private Edges() {
    }

    static void runAll(Class<?> tests) {
        Check check = new Check();
        for (Method test : testsOf(tests)) {
            run(test, check);
        }
        check.end();
    }

    static List<Method> testsOf(Class<?> tests) {
        List<Method> found = new ArrayList<>();
        for (Method method : tests.getDeclaredMethods()) {
            if (method.isAnnotationPresent(Edge.class)) {
                found.add(method);
            }
        }
        found.sort(Comparator.comparingInt((Method m) -> edgeOf(m).promise()).thenComparing(Method::getName));
        return found;
    }

    static Edge edgeOf(Method test) {
        return test.getAnnotation(Edge.class);
    }

    private static void run(Method test, Check check) {
        Edge edge = edgeOf(test);
        check.enter("promise " + edge.promise() + ", '" + edge.says() + "', " + test.getName() + ": ");
        int before = check.answers();
        try {
            test.invoke(null, check);
        } catch (InvocationTargetException e) {
            e.getCause().printStackTrace(System.out);
            check.holds("the test threw: it", false);
        } catch (IllegalAccessException e) {
            check.holds("the test can be called: it", false);
        }
        check.holds("the test asks something: it", check.answers() > before);
    }
}
