import java.lang.annotation.ElementType;
import java.lang.annotation.Retention;
import java.lang.annotation.RetentionPolicy;
import java.lang.annotation.Target;

/** Which sentence of the document a test is of; Sentences compares the words with the document. */
@Retention(RetentionPolicy.RUNTIME)
@Target(ElementType.METHOD)
@interface Says {
    /** 1 to 36; 0 for what stands ahead of the promises. */
    int promise();

    /** The document's own words. */
    String words();
}
