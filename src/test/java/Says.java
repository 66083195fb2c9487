import java.lang.annotation.ElementType;
import java.lang.annotation.Retention;
import java.lang.annotation.RetentionPolicy;
import java.lang.annotation.Target;

/**
 * What a test holds the class to: the number of a promise (TERMS for a sentence that stands above them all) and the
 * sentence, word by word as it stands there in DOC.md. DocumentTests looks whether it does.
 */
@Retention(RetentionPolicy.RUNTIME)
@Target(ElementType.METHOD)
@interface Says {
    int TERMS = 0;

    int promise();

    String sentence();
}
