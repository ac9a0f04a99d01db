import java.lang.annotation.ElementType;
import java.lang.annotation.Retention;
import java.lang.annotation.RetentionPolicy;
import java.lang.annotation.Target;

/** Marks a test of one sentence of the document, and says which one it is. */
@Retention(RetentionPolicy.RUNTIME)
@Target(ElementType.METHOD)
@interface Sentence {
    /** The number of the promise; 0 where the sentence is not about a single promise. */
    int promise() default 0;

    /** The sentence, word for word. */
    String says();
}
