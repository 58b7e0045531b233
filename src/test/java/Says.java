import java.lang.annotation.ElementType;
import java.lang.annotation.Retention;
import java.lang.annotation.RetentionPolicy;
import java.lang.annotation.Target;

/** The sentence of the document, or the part of it that names a boundary case, for which a test stands. */
@Retention(RetentionPolicy.RUNTIME)
@Target(ElementType.METHOD)
@interface Says {
    /** The promises for which it is said. */
    int[] promise();

    /** Where it stands, if not under the promise: Terms, ==== 2. or ==== 3. */
    String under() default "";

    String text();
}
