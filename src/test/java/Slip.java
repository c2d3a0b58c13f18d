import java.lang.annotation.ElementType;
import java.lang.annotation.Repeatable;
import java.lang.annotation.Retention;
import java.lang.annotation.RetentionPolicy;
import java.lang.annotation.Target;

/**
 * Lines of ZonedFabric.java, and others in their place by which the sentence would not hold: the test must find it.
 * Where one line alone does not break the sentence, several are changed at once.
 */
@Retention(RetentionPolicy.RUNTIME)
@Target(ElementType.METHOD)
@Repeatable(Slip.All.class)
@interface Slip {
    String[] from();

    String[] to();

    @Retention(RetentionPolicy.RUNTIME)
    @Target(ElementType.METHOD)
    @interface All {
        Slip[] value();
    }
}
