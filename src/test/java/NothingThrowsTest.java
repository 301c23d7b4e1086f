import java.lang.reflect.InvocationTargetException;
import java.lang.reflect.Method;
import java.lang.reflect.Modifier;
import java.util.List;
import java.util.function.Supplier;

/** LANGUAGE.md, rule 7: no call throws or fails to end, for any arguments in any of some states. */
public final class NothingThrowsTest {
    private static final int MOST_CALLS = 200;
    private static final int[] NUMBERS = {Integer.MIN_VALUE, -1, 0, 1, 5, 11, 24, 40,
        Integer.MAX_VALUE};
    // move() has five numbers: with fewer of each there are not too many runs.
    private static final int[] FEWER = {Integer.MIN_VALUE, -1, 0, 3, 24, Integer.MAX_VALUE};
    private static final List<Supplier<NamedPrices>> STATES = List.of(Towns::empty, Towns::some,
        Towns::full, Towns::old);

    private static NamedPrices x;
    private static int calls;

    public static void main(String[] args) throws Exception {
        for (Supplier<NamedPrices> state : STATES) {
            for (Method method : NamedPrices.class.getDeclaredMethods()) {
                if (Modifier.isPublic(method.getModifiers())) {
                    x = state.get();
                    calls = 0;
                    each(state, method, new Object[method.getParameterCount()], 0);
                }
            }
        }
        Due.end();
    }

    /** Calls it with all that can stand from this place on. */
    private static void each(Supplier<NamedPrices> state, Method method, Object[] given, int place)
            throws IllegalAccessException {
        if (place == given.length) {
            call(state, method, given);
            return;
        }
        boolean isLong = method.getParameterTypes()[place] == long.class;
        for (int v : given.length > 4 ? FEWER : NUMBERS) {
            if (isLong) {
                given[place] = (long) v << 32 ^ v;
            } else {
                given[place] = v;
            }
            each(state, method, given, place + 1);
        }
    }

    private static void call(Supplier<NamedPrices> state, Method method, Object[] given)
            throws IllegalAccessException {
        if (calls == MOST_CALLS) {
            x = state.get();
            calls = 0;
        }
        calls++;
        try {
            method.invoke(x, given);
        } catch (InvocationTargetException e) {
            String call = method.getName() + java.util.Arrays.toString(given);
            Due.holds(call + " throws no " + e.getCause(), false);
        }
    }
}
