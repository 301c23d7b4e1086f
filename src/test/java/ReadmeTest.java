import java.nio.charset.StandardCharsets;
import java.nio.file.Files;
import java.nio.file.Path;
import java.util.ArrayList;
import java.util.List;
import java.util.Map;
import java.util.Set;
import java.util.TreeMap;
import java.util.TreeSet;
import java.util.regex.Matcher;
import java.util.regex.Pattern;

/**
 * README.md says of each call what the document says: its face, its ERRORS, the bounds of the RULES;
 * and its examples show each call. Whether they answer so, .ci/run asks of ReadmeExamples' program.
 */
public final class ReadmeTest {
    private static final String ERROR = "(BEYOND|NONE|STATE|FULL|KIND|PARTED)\\b";
    private static final Pattern FACE = Pattern.compile("public ((?:int|long) (\\w+)\\([^)]*\\));");
    private static final Pattern PROMISE = Pattern.compile(
        "(?m)^## Promise \\d+: (\\w+)\n\n`(?:int|long) [^`]*`: (.*)$");
    private static final Pattern CALL_ROW = Pattern.compile(
        "(?m)^\\| `((?:int|long) (\\w+)\\([^)]*\\))` \\| (.+) \\| (.*?) ?\\|$");
    private static final Pattern ERROR_ROW = Pattern.compile(
        "(?m)^\\| (-\\d+) \\| LOW - (\\d) \\| (\\w+) \\|$");
    private static final Pattern RULE_ROW = Pattern.compile(
        "(?m)^\\| (\\d) \\| ([A-Z]+): [^|]* \\| 0 \\.\\. (\\d+) \\| (\\d+) \\|$");

    public static void main(String[] args) throws Exception {
        String page = read("README.md");
        String document = read("../shared/DOC.md");
        face(page, document);
        errorsOfCalls(page, document);
        errors(page);
        rules(page);
        examples(page, document);
        linesAreLookedAt();
        Due.end();
    }

    private static String read(String name) throws Exception {
        return Files.readString(Path.of(name), StandardCharsets.UTF_8);
    }

    private static Set<String> all(Pattern wanted, int group, String text) {
        return new TreeSet<>(inOrder(wanted, group, text));
    }

    private static List<String> inOrder(Pattern wanted, int group, String text) {
        List<String> all = new ArrayList<>();
        Matcher found = wanted.matcher(text);
        while (found.find()) {
            all.add(found.group(group));
        }
        return all;
    }

    private static void face(String page, String document) {
        Set<String> asked = all(FACE, 1, document);
        Set<String> told = all(CALL_ROW, 1, page);
        Due.is("how many calls the document has", asked.size(), 42);
        Due.holds("the page's tables have " + asked + ", not " + told, asked.equals(told));
    }

    /**
     * In the order in which they are asked. In the document an ERROR of a call begins a sentence, or
     * is what another stands ahead of; on the page they stand in the last row.
     */
    private static void errorsOfCalls(String page, String document) {
        Pattern begins = Pattern.compile("(?:[.;]|ahead of) " + ERROR);
        Map<String, List<String>> asked = new TreeMap<>();
        Matcher promise = PROMISE.matcher(document);
        while (promise.find()) {
            asked.put(promise.group(1), inOrder(begins, 1, promise.group(2)));
        }
        Pattern stands = Pattern.compile("(?:^|[;,] )" + ERROR);
        Map<String, List<String>> told = new TreeMap<>();
        Matcher row = CALL_ROW.matcher(page);
        while (row.find()) {
            told.put(row.group(2), inOrder(stands, 1, row.group(4)));
        }
        Due.is("how many promises there are, but for a new object", asked.size(), 42);
        for (String name : asked.keySet()) {
            Due.holds(name + " has the ERRORS " + asked.get(name) + ", not " + told.get(name),
                asked.get(name).equals(told.get(name)));
        }
    }

    private static void errors(String page) {
        String[] names = {"BEYOND", "NONE", "STATE", "FULL", "KIND", "PARTED"};
        Matcher row = ERROR_ROW.matcher(page);
        int found = 0;
        while (row.find()) {
            found++;
            Due.is(row.group(3), Long.parseLong(row.group(1)), -1000000000L - found);
            Due.is("LOW less", Long.parseLong(row.group(2)), found);
            Due.holds("the next is " + row.group(3),
                found <= names.length && names[found - 1].equals(row.group(3)));
        }
        Due.is("how many ERRORS the page has", found, names.length);
    }

    private static void rules(String page) {
        Matcher row = RULE_ROW.matcher(page);
        int found = 0;
        while (row.find()) {
            int rule = Integer.parseInt(row.group(1));
            int most = Integer.parseInt(row.group(3));
            int first = Integer.parseInt(row.group(4));
            Due.is("the number of " + row.group(2), rule, found);
            NamedPrices x = new NamedPrices();
            Due.is(row.group(2) + " at first", x.rule(rule, most), first);
            Due.is(row.group(2) + " at most", x.rule(rule, most), most);
            Due.is(row.group(2) + " above that", x.rule(rule, most + 1), Due.BEYOND);
            found++;
        }
        Due.is("how many RULES the page has", found, 5);
    }

    private static void examples(String page, String document) {
        String lines = String.join("\n", ReadmeExamples.lines(page));
        Set<String> shown = all(Pattern.compile("town\\.(\\w+)\\("), 1, lines);
        Set<String> asked = all(FACE, 2, document);
        Due.holds("the examples show " + asked + ", not " + shown, asked.equals(shown));
        int opened = page.split("(?m)^ *```java", -1).length - 1;
        int read = page.split("(?m)^```java\n", -1).length - 1;
        Due.is("how many examples are read", read, opened);
        String program = ReadmeExamples.program(ReadmeExamples.lines(page));
        Matcher answer = Pattern.compile("(?m)^.*; +// -?\\d+").matcher(lines);
        int answers = 0;
        while (answer.find()) {
            answers++;
        }
        Due.is("how many answers are asked for", program.split(" due\\(\"", -1).length - 1, answers);
    }

    /** No line of an example stands there without being looked at, and each has its own answer. */
    private static void linesAreLookedAt() {
        String made = "NamedPrices x = new NamedPrices();";
        String program = ReadmeExamples.program(List.of(made,
            "int one = x.person(0, 0, 11); // 0: the first", "x.body(0);  // -1000000002"));
        Due.holds("an object is made", program.contains("        " + made + "\n"));
        Due.holds("an answer that has a name is asked for", program.contains(
            "int one = x.person(0, 0, 11); due(\"x.person(0, 0, 11)\", one, 0L);\n"));
        Due.holds("an answer below 0 is asked for",
            program.contains("due(\"x.body(0)\", x.body(0), -1000000002L);\n"));
        String[] refused = {"x.body(0);", "x.body(0); // NONE", "x.body(0) // 1", "int one = 5; // 5",
            "// a word", "x.body(0); // 1 or 2"};
        for (String line : refused) {
            boolean told = false;
            try {
                ReadmeExamples.program(List.of(made, line));
            } catch (IllegalArgumentException e) {
                told = true;
            }
            Due.holds("a line without its answer is refused: " + line, told);
        }
    }
}
