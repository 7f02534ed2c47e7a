import java.lang.annotation.Retention;
import java.lang.annotation.RetentionPolicy;

/** The heading of DOC.md whose sentences the tests of a class hold. */
@Retention(RetentionPolicy.RUNTIME)
@interface Heading {
    String value();
}
