import java.lang.annotation.Retention;
import java.lang.annotation.RetentionPolicy;

/** A test of one boundary: whose promise it is, and the document's words that name it. */
@Retention(RetentionPolicy.RUNTIME)
@interface Edge {
    int promise();

    String words();
}
