import java.lang.annotation.ElementType;
import java.lang.annotation.Retention;
import java.lang.annotation.RetentionPolicy;
import java.lang.annotation.Target;

/** Marks a test of a boundary case, with the words of the document that it would find broken. */
@Retention(RetentionPolicy.RUNTIME)
@Target(ElementType.METHOD)
@interface Says {
    /** The document's section: "What it is", "Terms", "Promise 1", "Promise 2", .. */
    String in();

    /** Words of that section, as they stand there. */
    String words();
}
