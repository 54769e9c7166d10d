import java.lang.annotation.ElementType;
import java.lang.annotation.Retention;
import java.lang.annotation.RetentionPolicy;
import java.lang.annotation.Target;

/** The part of a document that a class of tests belongs to: what stands behind the first words, before the others. */
@Retention(RetentionPolicy.RUNTIME)
@Target(ElementType.TYPE)
@interface Part {
    String file() default "../shared/DOC.md";

    String name();

    String from();

    String to();
}
