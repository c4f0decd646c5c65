import java.io.IOException;
import java.lang.reflect.InvocationTargetException;
import java.lang.reflect.Method;
import java.util.ArrayList;
import java.util.Comparator;
import java.util.List;

/** Runs the tests of a class that are marked as an Edge. */
final class Edges {

    private final Class<?> tests;
    private final Check check;
    private final Document document;

    private Edges(Class<?> tests, Check check) throws IOException {
        this.tests = tests;
        this.check = check;
        this.document = Document.read();
    }

    /** Runs them all; each of these promises has to have a test. */
    static void run(Class<?> tests, Check check, int... promises) throws IOException {
        Edges edges = new Edges(tests, check);
        List<Method> all = marked(tests);
        for (int promise : promises) {
            check.yes("promise " + promise + " has a test in " + tests.getName(),
                    all.stream().anyMatch(m -> m.getAnnotation(Edge.class).promise() == promise));
        }
        for (Method method : all) {
            edges.runOne(method);
        }
        check.end(tests.getName() + ", " + all.size() + " tests");
    }

    /** The tests of a class, by promises, then by names. */
    static List<Method> marked(Class<?> tests) {
        List<Method> all = new ArrayList<>();
        for (Method method : tests.getDeclaredMethods()) {
            if (method.isAnnotationPresent(Edge.class)) {
                all.add(method);
            }
        }
        Comparator<Method> byPromise =
                Comparator.comparingInt(m -> m.getAnnotation(Edge.class).promise());
        all.sort(byPromise.thenComparing(Method::getName));
        return all;
    }

    private void runOne(Method method) {
        Edge edge = method.getAnnotation(Edge.class);
        String name = tests.getName() + "." + method.getName();
        check.yes(name + " quotes the document: " + edge.words(), isQuoted(edge));
        check.within(name);
        try {
            method.setAccessible(true);
            method.invoke(null);
        } catch (InvocationTargetException e) {
            check.note(false, "threw " + e.getCause());
        } catch (IllegalAccessException e) {
            check.note(false, "could not be called");
        }
        check.within("");
    }

    /** Whether the words stand in the promise itself or outside of all. */
    private boolean isQuoted(Edge edge) {
        return document == null || document.says(edge.promise(), edge.words());
    }
}
