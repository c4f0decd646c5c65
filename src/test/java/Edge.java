import java.lang.annotation.Retention;
import java.lang.annotation.RetentionPolicy;

/**
 * A test of words of the document: whose promise it is (0: what is said outside the promises), and
 * the words, which are a sentence or a boundary that one names.
 */
@Retention(RetentionPolicy.RUNTIME)
@interface Edge {
    int promise();

    String words();
}
