import java.lang.reflect.Field;
import java.lang.reflect.Method;

/**
 * What the document bounds beyond what 512 calls can reach is set from inside: THE POT's hold, and
 * THE TRACE's. If a field or method is named anew in the class, it is here, too.
 */
final class Inside {
    private Inside() {
    }

    static void setPot(NamedPrices x, int v) {
        try {
            Object town = of(x, "now");
            field(town, "pot").setInt(town, v);
        } catch (ReflectiveOperationException e) {
            Due.holds("THE POT is found: " + e, false);
        }
    }

    /** One more BODY has begun. */
    static void begin(NamedPrices x, int body) {
        try {
            Object trace = of(of(x, "voices"), "trace");
            Method add = trace.getClass().getDeclaredMethod("add", int.class);
            add.setAccessible(true);
            add.invoke(trace, body);
        } catch (ReflectiveOperationException e) {
            Due.holds("THE TRACE is found: " + e, false);
        }
    }

    private static Object of(Object from, String name) throws ReflectiveOperationException {
        return field(from, name).get(from);
    }

    private static Field field(Object from, String name) throws ReflectiveOperationException {
        Field found = from.getClass().getDeclaredField(name);
        found.setAccessible(true);
        return found;
    }
}
