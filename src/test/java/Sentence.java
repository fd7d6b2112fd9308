import java.lang.annotation.Retention;
import java.lang.annotation.RetentionPolicy;

/** The sentence of the document, or the part of it that names the boundary, that a test is for. */
@Retention(RetentionPolicy.RUNTIME)
@interface Sentence {
    String value();
}
