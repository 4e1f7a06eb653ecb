import java.lang.annotation.ElementType;
import java.lang.annotation.Retention;
import java.lang.annotation.RetentionPolicy;
import java.lang.annotation.Target;

/** The sentence of the document, or the part of one, that a test would find broken. */
@Retention(RetentionPolicy.RUNTIME)
@Target(ElementType.METHOD)
@interface Sentence {
    /** Where it stands: "Description", "2. Heat", "Promise 9". */
    String in();

    /** Its very words. */
    String says();
}
