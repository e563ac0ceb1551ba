import java.lang.annotation.ElementType;
import java.lang.annotation.Retention;
import java.lang.annotation.RetentionPolicy;
import java.lang.annotation.Target;

/** Marks a test with the one sentence of the document that it would fail for. */
@Retention(RetentionPolicy.RUNTIME)
@Target(ElementType.METHOD)
@interface Sentence {
    /** The promise's number; 0 for the chapter 'Description'. */
    int promise();

    /** The document's words, letter by letter. */
    String says();
}
