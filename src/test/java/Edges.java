import java.lang.annotation.ElementType;
import java.lang.annotation.Retention;
import java.lang.annotation.RetentionPolicy;
import java.lang.annotation.Target;
import java.lang.reflect.Method;
import java.util.Arrays;
import java.util.Comparator;
import java.util.List;

/** Tests of single sentences of the document, each of which says the words that it tests. */
final class Edges {
    @Retention(RetentionPolicy.RUNTIME)
    @Target(ElementType.METHOD)
    @interface Says {
        /** "What it is", "Terms 0" (ahead of part 1) to "Terms 4", or "Promise 1" to "Promise 27". */
        String in();

        String words();
    }

    private Edges() { }

    static List<Method> testsOf(Class<?> type) {
        return Arrays.stream(type.getDeclaredMethods())
                .filter(m -> m.isAnnotationPresent(Says.class))
                .sorted(Comparator.comparing(Method::getName))
                .toList();
    }

    /** Runs all tests of a class; one that asks nothing is wrong too. */
    static void run(Check check, Class<?> type) throws ReflectiveOperationException {
        for (Method test : testsOf(type)) {
            Says says = test.getAnnotation(Says.class);
            check.about(says.in() + ", \"" + says.words() + "\"");
            int before = check.asked();
            test.invoke(null);
            check.holds(test.getName() + " asks something", check.asked() > before);
        }
        check.end();
    }
}
