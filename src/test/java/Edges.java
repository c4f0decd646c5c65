import java.io.IOException;
import java.lang.reflect.InvocationTargetException;
import java.lang.reflect.Method;
import java.nio.file.Files;
import java.nio.file.Path;
import java.util.ArrayList;
import java.util.Comparator;
import java.util.List;

/** Runs the tests of a class that are marked as an Edge. */
final class Edges {

    private static final String LAST_OF_TERMS = "## Promise 1:";

    private final Class<?> tests;
    private final Check check;
    private final String document;

    private Edges(Class<?> tests, Check check) throws IOException {
        this.tests = tests;
        this.check = check;
        this.document = readDocument();
    }

    /** Runs them all; each of these promises has to have a test. */
    static void run(Class<?> tests, Check check, int... promises) throws IOException {
        Edges edges = new Edges(tests, check);
        List<Method> all = marked(tests);
        for (int promise : promises) {
            check.yes("promise " + promise + " has a test in " + tests.getName(),
                    all.stream().anyMatch(m -> m.getAnnotation(Edge.class).promise() == promise));
        }
        for (Method method : all) {
            edges.runOne(method);
        }
        check.end(tests.getName() + ", " + all.size() + " tests");
    }

    /** The tests of a class, by promises, then by names. */
    static List<Method> marked(Class<?> tests) {
        List<Method> all = new ArrayList<>();
        for (Method method : tests.getDeclaredMethods()) {
            if (method.isAnnotationPresent(Edge.class)) {
                all.add(method);
            }
        }
        Comparator<Method> byPromise =
                Comparator.comparingInt(m -> m.getAnnotation(Edge.class).promise());
        all.sort(byPromise.thenComparing(Method::getName));
        return all;
    }

    private void runOne(Method method) {
        Edge edge = method.getAnnotation(Edge.class);
        String name = tests.getName() + "." + method.getName();
        check.yes(name + " quotes the document: " + edge.words(), isQuoted(edge));
        check.within(name);
        try {
            method.setAccessible(true);
            method.invoke(null);
        } catch (InvocationTargetException e) {
            check.note(false, "threw " + e.getCause());
        } catch (IllegalAccessException e) {
            check.note(false, "could not be called");
        }
        check.within("");
    }

    /** Whether the words stand among the terms or in the promise itself. */
    private boolean isQuoted(Edge edge) {
        if (document == null) {
            return true;
        }
        int terms = document.indexOf(LAST_OF_TERMS);
        int from = document.indexOf("## Promise " + edge.promise() + ":");
        if (terms < 0 || from < 0) {
            return false;
        }
        int end = document.indexOf("## ", from + 3);
        String promise = document.substring(from, end < 0 ? document.length() : end);
        return promise.contains(edge.words()) || document.substring(0, terms).contains(edge.words());
    }

    /** The document in one line; null, if it does not lie beside the project. */
    static String readDocument() throws IOException {
        Path path = Path.of("../shared/DOC.md");
        if (!Files.isReadable(path)) {
            return null;
        }
        return Files.readString(path).replaceAll("\\s+", " ");
    }
}
