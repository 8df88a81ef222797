import java.lang.annotation.ElementType;
import java.lang.annotation.Retention;
import java.lang.annotation.RetentionPolicy;
import java.lang.annotation.Target;

/** The sentence of ../shared/DOC.md that a test stands for, word by word. */
@Retention(RetentionPolicy.RUNTIME)
@Target(ElementType.METHOD)
@interface Says {
    /** Where it stands: "What it is", "Terms 1" to "Terms 6", "The constants", "Promise 1" to "Promise 27", "Not promised". */
    String in();

    String text();
}
