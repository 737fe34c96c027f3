import java.lang.reflect.InvocationTargetException;
import java.lang.reflect.Method;
import java.lang.reflect.Modifier;
import java.util.ArrayList;
import java.util.Arrays;
import java.util.Comparator;
import java.util.List;

/** All promises: with any arguments, in any state, a method throws what its promise names, and nothing else. */
final class ExtremesTest {
    private static final int[] NUMBERS = {0, 1, 2, 3, 4, 5, 6, 7, 8, 9, 10, 11, 12, 31, 32, 33, 59, 60, 61, 63, 64, 65,
        127, 128, -1, -2, -32, Integer.MIN_VALUE, Integer.MIN_VALUE + 1, Integer.MAX_VALUE, Integer.MAX_VALUE - 1};
    private static final String SIGNS = "klcbuptsw;;;//0123456789";

    private static long seed = 5;

    public static void main(String[] arguments) throws IllegalAccessException {
        List<Method> methods = new ArrayList<>();
        for (Method method : KeyWaves.class.getDeclaredMethods()) {
            if (Modifier.isPublic(method.getModifiers())) {
                methods.add(method);
            }
        }
        methods.sort(Comparator.comparing(Method::getName));
        Runs.same("methods of the face", methods.size(), 36);
        for (int run = 0; run < 200; run++) {
            KeyWaves lodge = new KeyWaves();
            for (int call = 0; call < Runs.MOST_CALLS; call++) {
                callOne(lodge, methods.get(next(methods.size())));
            }
        }
        Runs.end("ExtremesTest");
    }

    private static int next(int bound) {
        seed = seed * 6364136223846793005L + 1442695040888963407L;
        return (int) ((seed >>> 33) % bound);
    }

    private static void callOne(KeyWaves lodge, Method method) throws IllegalAccessException {
        Class<?>[] types = method.getParameterTypes();
        Object[] values = new Object[types.length];
        for (int i = 0; i < types.length; i++) {
            values[i] = value(types[i]);
        }
        boolean isDue = true;
        String name = method.getName() + Arrays.toString(values);
        try {
            method.invoke(Runs.use(lodge), values);
        } catch (InvocationTargetException e) {
            isDue = Arrays.asList(method.getExceptionTypes()).contains(e.getCause().getClass());
            name = name + " throws " + e.getCause();
        }
        Runs.same(name, isDue, true);
    }

    private static Object value(Class<?> type) {
        if (type == boolean.class) {
            return next(2) == 0;
        }
        if (type == char.class) {
            return next(20) == 0 ? (char) next(65536) : SIGNS.charAt(next(SIGNS.length()));
        }
        return next(4) == 0 ? NUMBERS[next(NUMBERS.length)] : next(8);
    }
}
