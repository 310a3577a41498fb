import java.lang.annotation.ElementType;
import java.lang.annotation.Retention;
import java.lang.annotation.RetentionPolicy;
import java.lang.annotation.Target;

/** Marks a test of one sentence of the document that names a boundary case. */
@Retention(RetentionPolicy.RUNTIME)
@Target(ElementType.METHOD)
@interface Edge {
    /** The number of the promise that the sentence belongs to. */
    int promise();

    /** The words of the document, as they stand in the promise's section or before the promises. */
    String says();
}
