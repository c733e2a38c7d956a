import java.lang.annotation.ElementType;
import java.lang.annotation.Retention;
import java.lang.annotation.RetentionPolicy;
import java.lang.annotation.Target;

/** Tells which words of ../shared/DOC.md a test holds; DocumentTest looks whether they stand there. */
@Retention(RetentionPolicy.RUNTIME)
@Target(ElementType.METHOD)
@interface Holds {
    /** The document's part: "Terms", "Promise 1" .. "Promise 31", or another heading without its name. */
    String at();

    /** The words, without the document's backticks. */
    String says();
}
