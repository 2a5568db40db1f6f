import java.lang.annotation.ElementType;
import java.lang.annotation.Retention;
import java.lang.annotation.RetentionPolicy;
import java.lang.annotation.Target;

/** The words of the document that a test holds, and the heading under which they stand. */
@Retention(RetentionPolicy.RUNTIME)
@Target(ElementType.METHOD)
public @interface Holds {
    /** The heading, as "Promise 3" or "Terms, QUEUES". */
    String where();

    String sentence();
}
