import java.lang.annotation.ElementType;
import java.lang.annotation.Retention;
import java.lang.annotation.RetentionPolicy;
import java.lang.annotation.Target;

/** What a test is for: a promise's number and the words of ../shared/DOC.md, in the promise or in its terms. */
@Retention(RetentionPolicy.RUNTIME)
@Target(ElementType.METHOD)
@interface Remark {
    int promise();

    /** I, II or III where the words stand in the terms, UP where they stand ahead of these. */
    String terms() default "";

    String[] says();
}
