import java.lang.annotation.ElementType;
import java.lang.annotation.Retention;
import java.lang.annotation.RetentionPolicy;
import java.lang.annotation.Target;

/** Names the sentence of ../shared/DOC.md that a test of a boundary case is of. */
@Retention(RetentionPolicy.RUNTIME)
@Target(ElementType.METHOD)
@interface Says {
    /** The heading of the section, as "Promise 2: clip". */
    String in();

    /** The sentence, or the part of it that tells of the boundary, letter by letter. */
    String sentence();
}
