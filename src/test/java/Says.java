import java.lang.annotation.ElementType;
import java.lang.annotation.Retention;
import java.lang.annotation.RetentionPolicy;
import java.lang.annotation.Target;

/** The sentences of ../shared/DOC.md that a test is about, word by word; promise 0 is what stands ahead of them. */
@Retention(RetentionPolicy.RUNTIME)
@Target(ElementType.METHOD)
@interface Says {
    int[] promise() default 0;

    String[] value();
}
