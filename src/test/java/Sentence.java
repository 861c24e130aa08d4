import java.lang.annotation.Retention;
import java.lang.annotation.RetentionPolicy;

/** The words of ../shared/DOC.md that a test is named after, as they stand there. */
@Retention(RetentionPolicy.RUNTIME)
@interface Sentence {
    String value();
}
