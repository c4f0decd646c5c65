import java.io.IOException;
import java.lang.reflect.Method;
import java.nio.file.Files;
import java.nio.file.Path;
import java.util.ArrayList;
import java.util.Arrays;
import java.util.Comparator;
import java.util.List;
import java.util.regex.Matcher;
import java.util.regex.Pattern;

/**
 * EDGES.md tells which test stands for which words of the document; no word of the document is
 * without a test that quotes it, and each thing that a promise refuses has a test of that promise.
 * With the argument 'write' it writes EDGES.md anew.
 */
public final class EdgeListTest {

    private static final Class<?>[] TESTS = {
        EdgeBuildTest.class, EdgeSelectTest.class, EdgeLookTest.class, EdgeCountTest.class,
        EdgeNumbersTest.class, EdgeRankTest.class, SentenceTermsTest.class,
        SentencePromiseTest.class,
    };
    private static final Path LIST = Path.of("EDGES.md");
    private static final String HEAD = "# Which test stands for which words of the document\n\n"
            + "Written by `EdgeListTest write`; README.md tells how. Promise 0: what is said outside"
            + " the promises.\n\n"
            + "| promise | words | test |\n|---|---|---|\n";
    /** What a promise answers for what it does not take: 'NONE: others, of another axis.' */
    private static final Pattern REFUSED =
            Pattern.compile("; (?:NONE|false|NoSuchElementException|0): ([^.]*)\\.");

    private static final Check CHECK = new Check();

    public static void main(String[] args) throws IOException {
        List<Method> all = new ArrayList<>();
        for (Class<?> tests : TESTS) {
            all.addAll(Edges.marked(tests));
        }
        all.sort(Comparator.comparingInt(EdgeListTest::promiseOf));
        if (args.length > 0 && args[0].equals("write")) {
            Files.writeString(LIST, list(all));
        }
        CHECK.yes("EDGES.md tells all tests", Files.readString(LIST).equals(list(all)));
        Document document = Document.read();
        for (int promise = Document.OUTSIDE; promise <= Document.PROMISES; promise++) {
            List<String> quoted = quotes(all, promise);
            CHECK.yes("promise " + promise + " has a test", !quoted.isEmpty());
            if (document != null) {
                everyWordIsQuoted(promise, document.text(promise),
                        promise == Document.OUTSIDE ? quotes(all) : quoted);
                allRefusedAreTested(promise, document.text(promise), quoted);
            }
        }
        CHECK.end("EdgeListTest");
    }

    private static int promiseOf(Method test) {
        return test.getAnnotation(Edge.class).promise();
    }

    private static String list(List<Method> all) {
        StringBuilder text = new StringBuilder(HEAD);
        for (Method test : all) {
            text.append("| ").append(promiseOf(test)).append(" | ");
            text.append(test.getAnnotation(Edge.class).words()).append(" | ");
            text.append(test.getDeclaringClass().getName()).append('.').append(test.getName());
            text.append(" |\n");
        }
        return text.toString();
    }

    private static List<String> quotes(List<Method> tests) {
        List<String> quoted = new ArrayList<>();
        for (Method test : tests) {
            quoted.add(test.getAnnotation(Edge.class).words());
        }
        return quoted;
    }

    private static List<String> quotes(List<Method> all, int promise) {
        return quotes(all.stream().filter(test -> promiseOf(test) == promise).toList());
    }

    private static void everyWordIsQuoted(int promise, String text, List<String> quoted) {
        char[] left = text.toCharArray();
        for (String words : quoted) {
            for (int at = text.indexOf(words); at >= 0; at = text.indexOf(words, at + 1)) {
                Arrays.fill(left, at, at + words.length(), '\n');
            }
        }
        for (String piece : new String(left).split("\n+")) {
            boolean saysNothing = piece.chars().noneMatch(Character::isLetterOrDigit);
            CHECK.note(saysNothing, "promise " + promise + " has no test of '" + piece + "'");
        }
    }

    private static void allRefusedAreTested(int promise, String text, List<String> quoted) {
        Matcher refused = REFUSED.matcher(text);
        while (refused.find()) {
            for (String piece : refused.group(1).split(", ")) {
                CHECK.yes("promise " + promise + " has a test of '" + piece + "'",
                        quoted.stream().anyMatch(words -> words.contains(piece)));
            }
        }
    }
}
