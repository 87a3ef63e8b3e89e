import java.lang.annotation.ElementType;
import java.lang.annotation.Retention;
import java.lang.annotation.RetentionPolicy;
import java.lang.annotation.Target;

/**
 * The sentences of the document, word for word, whose boundary cases a test asks on both sides. A sentence that the
 * document puts behind a method's head stands here without that head.
 */
@Retention(RetentionPolicy.RUNTIME)
@Target(ElementType.METHOD)
@interface Sentence {
    /** The head under which they stand, such as "Terms" or "Promise 2". */
    String under();

    String[] value();
}
