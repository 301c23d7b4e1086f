import java.lang.reflect.Field;
import java.lang.reflect.InvocationTargetException;
import java.lang.reflect.Method;

/**
 * What the document bounds beyond what 512 calls can reach is set from inside: THE POT's hold, and
 * THE TRACE's. Where the class has no such fields, its tests say so and go on without.
 */
final class Inside {
    private Inside() {
    }

    static boolean setPot(NamedPrices x, int v) {
        try {
            Object town = of(x, "now");
            field(town, "pot").setInt(town, v);
            return true;
        } catch (NoSuchFieldException | IllegalAccessException e) {
            return lacks("THE POT", e);
        }
    }

    /** One more BODY has begun. */
    static boolean begin(NamedPrices x, int body) {
        try {
            Object trace = of(of(x, "voices"), "trace");
            Method add = trace.getClass().getDeclaredMethod("add", int.class);
            add.setAccessible(true);
            add.invoke(trace, body);
            return true;
        } catch (InvocationTargetException e) {
            Due.holds("one more BODY begins without " + e.getCause(), false);
            return false;
        } catch (ReflectiveOperationException e) {
            return lacks("THE TRACE", e);
        }
    }

    private static boolean lacks(String what, ReflectiveOperationException e) {
        System.out.println("not looked at: the hold of " + what + ", not found inside: " + e);
        return false;
    }

    private static Object of(Object from, String name)
            throws NoSuchFieldException, IllegalAccessException {
        return field(from, name).get(from);
    }

    private static Field field(Object from, String name) throws NoSuchFieldException {
        Field found = from.getClass().getDeclaredField(name);
        found.setAccessible(true);
        return found;
    }
}
