import java.lang.annotation.ElementType;
import java.lang.annotation.Retention;
import java.lang.annotation.RetentionPolicy;
import java.lang.annotation.Target;

/** Marks the test of one sentence of the document. */
@Retention(RetentionPolicy.RUNTIME)
@Target(ElementType.METHOD)
@interface Says {
    /** The document's part: What it is, Terms, or Promise 1 to Promise 26. */
    String at();

    /** The sentence, or its part that names the case, in the document's own words. */
    String words();
}
