import java.nio.charset.StandardCharsets;
import java.nio.file.Files;
import java.nio.file.Path;
import java.util.Set;
import java.util.TreeSet;
import java.util.regex.Matcher;
import java.util.regex.Pattern;

/** What of LANGUAGE.md can be seen from the source's words. */
public final class LanguageTest {
    private static final String[] FORBIDDEN = {
        "\\bthrow\\b", "\\bthrows\\b", "\\btry\\b", "\\bcatch\\b", "\\bsynchronized\\b",
        "\\bassert\\b", "\\bimport\\b", "\\bpackage\\b", "->", "::", "Exact\\b", "\\bThread\\b",
        "\\bprotected\\b", "\\bequals\\b", "\\bhashCode\\b", "\\btoString\\b", "\\bObject\\b",
        "\\bnative\\b", "\\bvolatile\\b", "\\bvar\\b", "\\bsuper\\b", "\\bfinalize\\b",
        "static\\s*\\{", "@\\w+", "\\bSystem\\.(?!arraycopy\\b)", "\\bMath\\.(?!(abs|max|min)\\b)",
        "while\\s*\\(\\s*true", "for\\s*\\(\\s*;", "\\bdouble\\b", "\\bfloat\\b"};
    private static final Pattern HEAD = Pattern.compile(
        "^( {4}| {8})(?:public |private |static )*[\\w\\[\\]]+ \\w+\\(([^)]*)\\) \\{$");
    private static final Set<String> MADE = Set.of("int", "long", "short", "byte", "char",
        "boolean", "String", "StringBuilder", "ArrayList");

    public static void main(String[] args) throws Exception {
        Path source = Path.of("src/main/java/NamedPrices.java");
        String whole = Files.readString(source, StandardCharsets.UTF_8);
        for (int i = 0; i < whole.length(); i++) {
            Due.holds("sign " + i + " is plain", whole.charAt(i) < 127);
        }
        String plain = whole.replaceAll("(?s)/\\*.*?\\*/", "").replaceAll("//[^\n]*", "")
            .replaceAll("\"[^\"\n]*\"", "\"\"").replaceAll("'.'", "' '");
        for (String words : FORBIDDEN) {
            Due.holds("nothing like " + words, !Pattern.compile(words).matcher(plain).find());
        }
        Matcher made = Pattern.compile("\\bnew (\\w+)").matcher(plain);
        Set<String> all = new TreeSet<>();
        while (made.find()) {
            all.add(made.group(1));
        }
        all.removeAll(MADE);
        Matcher own = Pattern.compile("\\b(?:class|record|enum) (\\w+)").matcher(plain);
        while (own.find()) {
            all.remove(own.group(1));
        }
        Due.holds("only its own classes are made, not " + all, all.isEmpty());
        methods(plain.split("\n"));
        Due.end();
    }

    private static void methods(String[] lines) {
        int found = 0;
        for (int i = 0; i < lines.length; i++) {
            Matcher head = HEAD.matcher(lines[i]);
            if (!head.matches()) {
                continue;
            }
            found++;
            int parameters = head.group(2).isEmpty() ? 0 : head.group(2).split(",").length;
            Due.holds("at most seven parameters:" + lines[i], parameters <= 7);
            int end = i;
            while (end < lines.length && !lines[end].equals(head.group(1) + "}")) {
                end++;
            }
            Due.holds("at most sixty lines:" + lines[i], end - i <= 60);
        }
        Due.holds("methods were found", found > 100);
    }
}
