import java.lang.annotation.Retention;
import java.lang.annotation.RetentionPolicy;

/** The sentence of ../shared/DOC.md whose edge a test looks at. */
@Retention(RetentionPolicy.RUNTIME)
@interface Says {
    String value();
}
