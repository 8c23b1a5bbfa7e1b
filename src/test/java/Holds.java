import java.lang.annotation.Retention;
import java.lang.annotation.RetentionPolicy;

/** The sentence of the document that a test holds, behind the promise (or the term) that says it. */
@Retention(RetentionPolicy.RUNTIME)
@interface Holds {
    String value();
}
