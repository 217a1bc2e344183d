import java.lang.reflect.InvocationTargetException;
import java.lang.reflect.Method;
import java.lang.reflect.Modifier;
import java.util.ArrayList;
import java.util.Arrays;
import java.util.Comparator;
import java.util.List;
import java.util.Random;

/**
 * Calls with any arguments, in any order, far beyond the 512th: what they answer there is free, but each one ends,
 * and throws nothing but what the face names, and nothing that the machine throws by itself.
 */
public final class WildTest {
    private static final int OBJECTS = 20;
    private static final int CALLS = 20000;
    private static final int[] NUMBERS = {-1, 0, 1, 2, 3, 4, 5, 9, 10, 12, 15, 16, 31, 32, 59, 60, 61, 399, 400,
        Integer.MIN_VALUE, Integer.MAX_VALUE};

    private WildTest() {
    }

    public static void main(String[] args) throws IllegalAccessException {
        List<Method> face = new ArrayList<>();
        for (Method method : SlipstreamCache.class.getDeclaredMethods()) {
            if (Modifier.isPublic(method.getModifiers())) {
                face.add(method);
            }
        }
        face.sort(Comparator.comparing(Method::getName));
        for (int seed = 0; seed < OBJECTS; seed++) {
            run(face, new SlipstreamCache(), new Random(seed));
        }
        Check.end("WildTest");
    }

    private static void run(List<Method> face, SlipstreamCache x, Random random) throws IllegalAccessException {
        for (int call = 0; call < CALLS; call++) {
            Method method = face.get(random.nextInt(face.size()));
            Object[] numbers = arguments(method, random);
            try {
                method.invoke(x, numbers);
            } catch (InvocationTargetException thrown) {
                Throwable what = thrown.getCause();
                Check.due(true, Arrays.asList(method.getExceptionTypes()).contains(what.getClass()));
                Check.due(false, "/ by zero".equals(what.getMessage()));
            }
        }
    }

    private static Object[] arguments(Method method, Random random) {
        Object[] arguments = new Object[method.getParameterCount()];
        for (int at = 0; at < arguments.length; at++) {
            boolean isWay = method.getParameterTypes()[at] == char.class;
            arguments[at] = isWay ? (Object) "tbaq".charAt(random.nextInt(4)) : (Object) number(random);
        }
        return arguments;
    }

    private static int number(Random random) {
        return random.nextInt(3) == 0 ? NUMBERS[random.nextInt(NUMBERS.length)] : random.nextInt(8);
    }
}
