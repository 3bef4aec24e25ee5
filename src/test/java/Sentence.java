import java.lang.annotation.ElementType;
import java.lang.annotation.Retention;
import java.lang.annotation.RetentionPolicy;
import java.lang.annotation.Target;

/**
 * Of a test: the promise and the words of the document, with a boundary case, that it asks after.
 * The words stand under that promise, or ahead of all promises (under Terms, mostly).
 */
@Retention(RetentionPolicy.RUNTIME)
@Target(ElementType.METHOD)
@interface Sentence {
    int promise();

    String words();
}
