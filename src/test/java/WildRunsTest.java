import java.lang.reflect.InvocationTargetException;
import java.lang.reflect.Method;
import java.lang.reflect.Modifier;
import java.util.ArrayList;
import java.util.Comparator;
import java.util.List;
import java.util.Random;

/** Any call with any arguments, drawn with fixed seeds, in any state: none throws, and each answers as PlainSpaces. */
public final class WildRunsTest {
    private static final int RUNS = 800, CALLS = 512;
    private static final long[] EDGES = {-1, 8, 9, 10, 20, 21, 31, 32, 50, 51, 79, 80, 81, 99, 100, 126, 127, 199, 200,
        461, 462, 555555, 1000000, Integer.MAX_VALUE, Integer.MIN_VALUE, Long.MAX_VALUE, Long.MIN_VALUE};

    public static void main(String[] args) throws ReflectiveOperationException {
        List<Method> methods = new ArrayList<>();
        for (Method method : BlownSpaces.class.getDeclaredMethods()) {
            if (Modifier.isPublic(method.getModifiers())) {
                methods.add(method);
            }
        }
        methods.sort(Comparator.comparing(Method::getName));
        Due.is("calls of the face", methods.size(), 44);
        for (int run = 0; run < RUNS; run++) {
            go(methods, new Random(7919L * run + 1));
        }
        Due.end("WildRunsTest");
    }

    private static void go(List<Method> methods, Random random) throws ReflectiveOperationException {
        BlownSpaces x = new BlownSpaces();
        PlainSpaces y = new PlainSpaces();
        for (int k = 0; k < CALLS; k++) {
            Method method = methods.get(random.nextInt(methods.size()));
            Object[] drawn = draw(method, random);
            Method plain = PlainSpaces.class.getDeclaredMethod(method.getName(), method.getParameterTypes());
            StringBuilder call = new StringBuilder(method.getName());
            for (Object value : drawn) {
                call.append(" ").append(value);
            }
            long want = ((Number) plain.invoke(y, drawn)).longValue();
            try {
                Due.is(call.toString(), ((Number) method.invoke(x, drawn)).longValue(), want);
            } catch (InvocationTargetException thrown) {
                Due.is(call + " threw " + thrown.getCause(), 1, 0);
            }
        }
    }

    private static Object[] draw(Method method, Random random) {
        Class<?>[] types = method.getParameterTypes();
        Object[] drawn = new Object[types.length];
        for (int k = 0; k < types.length; k++) {
            long value = random.nextInt(8) == 0 ? EDGES[random.nextInt(EDGES.length)] : random.nextInt(6);
            if (method.getName().equals("feed") && random.nextInt(10) > 0) {
                value = "a12+-^;bupv sum".charAt(random.nextInt(15));
            }
            if (types[k] == int.class) {
                drawn[k] = (int) value;
            } else {
                drawn[k] = value;
            }
        }
        return drawn;
    }
}
