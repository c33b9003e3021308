import java.lang.annotation.ElementType;
import java.lang.annotation.Retention;
import java.lang.annotation.RetentionPolicy;
import java.lang.annotation.Target;

/** Marks the test of one sentence of the document, told in the document's own words. */
@Retention(RetentionPolicy.RUNTIME)
@Target(ElementType.METHOD)
@interface Bound {
    /** The number of the promise, or the heading that the sentence stands under. */
    String at();

    String says();
}
