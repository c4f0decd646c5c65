import java.io.IOException;
import java.lang.reflect.Method;
import java.nio.file.Files;
import java.nio.file.Path;
import java.util.ArrayList;
import java.util.Comparator;
import java.util.List;
import java.util.regex.Matcher;
import java.util.regex.Pattern;

/**
 * EDGES.md tells which test stands for which words of the document, and each thing that a promise
 * refuses has a test. With the argument 'write' it writes EDGES.md anew.
 */
public final class EdgeListTest {

    private static final Class<?>[] TESTS = {
        EdgeBuildTest.class, EdgeSelectTest.class, EdgeLookTest.class, EdgeCountTest.class,
        EdgeNumbersTest.class, EdgeRankTest.class,
    };
    private static final int PROMISES = 42;
    private static final Path LIST = Path.of("EDGES.md");
    private static final String HEAD = "# Which test stands for which words of the document\n\n"
            + "Written by `EdgeListTest write`; README.md tells how.\n\n"
            + "| promise | words | test |\n|---|---|---|\n";
    /** What a promise answers for what it does not take: 'NONE: others, of another axis.' */
    private static final Pattern REFUSED =
            Pattern.compile("; (?:NONE|false|NoSuchElementException|0): ([^.]*)\\.");

    private static final Check CHECK = new Check();

    public static void main(String[] args) throws IOException {
        List<Method> all = new ArrayList<>();
        for (Class<?> tests : TESTS) {
            all.addAll(Edges.marked(tests));
        }
        all.sort(Comparator.comparingInt(EdgeListTest::promiseOf));
        if (args.length > 0 && args[0].equals("write")) {
            Files.writeString(LIST, list(all));
        }
        CHECK.yes("EDGES.md tells all tests", Files.readString(LIST).equals(list(all)));
        String document = Edges.readDocument();
        for (int promise = 1; promise <= PROMISES; promise++) {
            allRefusedAreTested(all, promise, document);
        }
        CHECK.end("EdgeListTest");
    }

    private static int promiseOf(Method test) {
        return test.getAnnotation(Edge.class).promise();
    }

    private static String list(List<Method> all) {
        StringBuilder text = new StringBuilder(HEAD);
        for (Method test : all) {
            text.append("| ").append(promiseOf(test)).append(" | ");
            text.append(test.getAnnotation(Edge.class).words()).append(" | ");
            text.append(test.getDeclaringClass().getName()).append('.').append(test.getName());
            text.append(" |\n");
        }
        return text.toString();
    }

    private static void allRefusedAreTested(List<Method> all, int promise, String document) {
        StringBuilder quoted = new StringBuilder();
        for (Method test : all) {
            if (promiseOf(test) == promise) {
                quoted.append(test.getAnnotation(Edge.class).words()).append('\n');
            }
        }
        CHECK.yes("promise " + promise + " has a test", quoted.length() > 0);
        if (document == null) {
            return;
        }
        int from = document.indexOf("## Promise " + promise + ":");
        int end = document.indexOf("## ", from + 3);
        Matcher refused = REFUSED.matcher(document.substring(from, end));
        while (refused.find()) {
            for (String piece : refused.group(1).split(", ")) {
                CHECK.yes("promise " + promise + " has a test of '" + piece + "'",
                        quoted.indexOf(piece) >= 0);
            }
        }
    }
}
