import java.lang.annotation.Retention;
import java.lang.annotation.RetentionPolicy;

/** The words of the document that a test is of, and the heading under which they stand. */
@Retention(RetentionPolicy.RUNTIME)
@interface Says {
    String value();

    String at() default "Terms";
}
