import java.lang.annotation.ElementType;
import java.lang.annotation.Retention;
import java.lang.annotation.RetentionPolicy;
import java.lang.annotation.Target;

/** Of which sentence of ../shared/DOC.md, word by word, a test asks whether it holds. */
@Retention(RetentionPolicy.RUNTIME)
@Target(ElementType.METHOD)
@interface Sentence {
    /** A part as Document names it: "Terms 1", "Answers", "Promise 12". */
    String in();

    String says();
}
