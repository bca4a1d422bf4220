import java.lang.annotation.ElementType;
import java.lang.annotation.Retention;
import java.lang.annotation.RetentionPolicy;
import java.lang.annotation.Target;

/**
 * Marks the test of one edge, and quotes the sentence of the document (or the part of it) that names the edge: word for
 * word, but with ' for " and without `. The test's name begins with the section of the document, then a _ follows.
 */
@Retention(RetentionPolicy.RUNTIME)
@Target(ElementType.METHOD)
@interface Edge {
    String value();
}
