import java.lang.reflect.InvocationTargetException;
import java.lang.reflect.Method;
import java.util.Arrays;
import java.util.Comparator;

/** Runs the boundary tests of a class: each method that bears a sentence, in the order of their names. */
final class Edges {
    private Edges() {
    }

    static Method[] of(Class<?> tests) {
        return Arrays.stream(tests.getDeclaredMethods())
            .filter(method -> method.isAnnotationPresent(Says.class))
            .sorted(Comparator.comparing(Method::getName))
            .toArray(Method[]::new);
    }

    static void run(Class<?> tests) throws ReflectiveOperationException {
        for (Method method : of(tests)) {
            Due.test(method.getName());
            int before = Due.looked();
            try {
                method.invoke(null);
            } catch (InvocationTargetException thrown) {
                Due.is("threw " + thrown.getCause(), 1, 0);
            }
            Due.yes("looks at something", Due.looked() > before);
        }
        Due.test("");
        Due.end(tests.getSimpleName());
    }
}
