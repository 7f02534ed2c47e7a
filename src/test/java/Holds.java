import java.lang.annotation.Retention;
import java.lang.annotation.RetentionPolicy;

/** The words of DOC.md that a test holds; they stand there just so, under the heading of the test's class. */
@Retention(RetentionPolicy.RUNTIME)
@interface Holds {
    String value();
}
