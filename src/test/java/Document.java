import java.io.IOException;
import java.nio.file.Files;
import java.nio.file.Path;
import java.util.ArrayList;
import java.util.List;

/** The document as its sentences: without headings, code fences and the signatures of the face. */
final class Document {

    /** Stands for what is said outside the promises: what it is, the terms, what is not promised. */
    static final int OUTSIDE = 0;
    static final int PROMISES = 42;

    private static final Path PATH = Path.of("../shared/DOC.md");
    private static final String FACE = "## The public face";

    private final StringBuilder[] texts = new StringBuilder[PROMISES + 1];
    private final List<String> face = new ArrayList<>();

    private Document() {
        for (int promise = 0; promise <= PROMISES; promise++) {
            texts[promise] = new StringBuilder();
        }
    }

    /** Null, if the document does not lie beside the project. */
    static Document read() throws IOException {
        if (!Files.isReadable(PATH)) {
            return null;
        }
        Document document = new Document();
        int promise = OUTSIDE;
        boolean inFace = false;
        for (String line : Files.readAllLines(PATH)) {
            if (line.startsWith("#")) {
                promise = promiseOf(line);
                inFace = line.equals(FACE);
            } else if (inFace) {
                document.face.add(line.strip());
            } else if (!line.startsWith("```")) {
                document.add(promise, line.strip());
            }
        }
        return document;
    }

    private static int promiseOf(String heading) {
        String named = "## Promise ";
        if (!heading.startsWith(named)) {
            return OUTSIDE;
        }
        return Integer.parseInt(heading.substring(named.length(), heading.indexOf(':')));
    }

    private void add(int promise, String line) {
        String said = line.replaceAll("==== \\d+\\.", "").strip();
        if (promise != OUTSIDE) {
            said = said.replaceFirst("^`[^`]*`: ", "");
        }
        if (!said.isEmpty()) {
            texts[promise].append(said).append(' ');
        }
    }

    /** What a promise says, in one line. */
    String text(int promise) {
        return texts[promise].toString().strip();
    }

    /** The lines of the public face. */
    List<String> face() {
        return face;
    }

    boolean says(int promise, String words) {
        return promise >= OUTSIDE && promise <= PROMISES
                && (text(promise).contains(words) || text(OUTSIDE).contains(words));
    }
}
