import java.lang.annotation.ElementType;
import java.lang.annotation.Retention;
import java.lang.annotation.RetentionPolicy;
import java.lang.annotation.Target;

/**
 * The words of ../shared/DOC.md that a test holds the class to, letter by letter; more than one, if they stand apart.
 * The test's name tells where they stand: answers.., trains.., minutes.. (Terms: ANSWERS, 1, 2), promise07.. .
 */
@Retention(RetentionPolicy.RUNTIME)
@Target(ElementType.METHOD)
@interface Says {
    String[] value();
}
