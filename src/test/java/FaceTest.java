import java.lang.reflect.Constructor;
import java.lang.reflect.Field;
import java.lang.reflect.Method;
import java.lang.reflect.Modifier;
import java.nio.charset.StandardCharsets;
import java.nio.file.Files;
import java.nio.file.Path;
import java.util.Set;
import java.util.TreeSet;
import java.util.regex.Matcher;
import java.util.regex.Pattern;

/** The public face is the document's, no more and no less. */
public final class FaceTest {
    private static final Pattern METHOD = Pattern.compile("public (\\w+) (\\w+)\\(([^)]*)\\);");

    public static void main(String[] args) throws Exception {
        Path document = Path.of("../shared/DOC.md");
        Set<String> asked = new TreeSet<>();
        Set<String> names = new TreeSet<>();
        Matcher found = METHOD.matcher(Files.readString(document, StandardCharsets.UTF_8));
        while (found.find()) {
            names.add(found.group(2));
            asked.add(found.group(1) + " " + found.group(2) + "(" + types(found.group(3)) + ")");
        }
        Set<String> given = new TreeSet<>();
        for (Method method : NamedPrices.class.getDeclaredMethods()) {
            if (!Modifier.isPrivate(method.getModifiers()) && !method.isSynthetic()) {
                boolean plain = method.getModifiers() == Modifier.PUBLIC;
                Due.holds(method + " is public alone", plain);
                given.add(told(method));
            }
        }
        Due.is("how many methods the document has", asked.size(), 42);
        Due.holds("the methods are " + asked + ", not " + given, asked.equals(given));
        constructorsAndFields();
        inside(names);
        Due.end();
    }

    private static String types(String parameters) {
        return parameters.replaceAll("(\\w+) \\w+", "$1").replace(" ", "");
    }

    private static String told(Method method) {
        StringBuilder all = new StringBuilder();
        for (Class<?> type : method.getParameterTypes()) {
            all.append(all.length() == 0 ? "" : ",").append(type.getName());
        }
        return method.getReturnType() + " " + method.getName() + "(" + all + ")";
    }

    private static void constructorsAndFields() {
        Constructor<?>[] all = NamedPrices.class.getDeclaredConstructors();
        Due.holds("one public constructor, of nothing", all.length == 1
            && Modifier.isPublic(all[0].getModifiers()) && all[0].getParameterCount() == 0);
        for (Field field : NamedPrices.class.getDeclaredFields()) {
            Due.holds(field + " is private", Modifier.isPrivate(field.getModifiers()));
        }
        int modifiers = NamedPrices.class.getModifiers();
        Due.holds("public and final", Modifier.isPublic(modifiers) && Modifier.isFinal(modifiers));
    }

    private static void inside(Set<String> names) {
        Class<?>[] classes = NamedPrices.class.getDeclaredClasses();
        Due.holds("at most twelve classes", classes.length + 1 <= 12);
        for (Class<?> one : classes) {
            int modifiers = one.getModifiers();
            boolean hidden = !Modifier.isPublic(modifiers) && !Modifier.isProtected(modifiers);
            Due.holds(one + " is static and not public", hidden && Modifier.isStatic(modifiers));
            for (Method method : one.getDeclaredMethods()) {
                Due.holds(method + " has a name of its own", !names.contains(method.getName()));
                Due.holds(method + " is not public", !Modifier.isPublic(method.getModifiers()));
            }
            int fields = 0;
            for (Field field : one.getDeclaredFields()) {
                boolean fixed = Modifier.isStatic(field.getModifiers());
                Due.holds(field + " is final if static",
                    !fixed || Modifier.isFinal(field.getModifiers()));
                fields += fixed ? 0 : 1;
            }
            Due.holds(one + " has at most twenty fields", fields <= 20);
        }
    }
}
