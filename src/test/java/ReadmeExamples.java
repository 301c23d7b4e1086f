import java.nio.charset.StandardCharsets;
import java.nio.file.Files;
import java.nio.file.Path;
import java.util.ArrayList;
import java.util.List;
import java.util.regex.Matcher;
import java.util.regex.Pattern;

/**
 * Makes a program of the Java blocks of README.md, in their order: it has the blocks as they are
 * shown, so that they must compile, and each call once more, beside the answer that its comment
 * tells. Its main ends with exit code 1 if a call answers another.
 */
public final class ReadmeExamples {
    private static final Pattern BLOCK = Pattern.compile("(?ms)^```java\n(.*?)^```$");
    private static final Pattern MADE = Pattern.compile("NamedPrices \\w+ = new NamedPrices\\(\\);");
    private static final Pattern CALL = Pattern.compile(
        "(?:(int|long) (\\w+) = )?(\\w+\\.\\w+\\([^;\"\\\\]*\\)); +// (-?\\d+)(?::.*)?");

    private ReadmeExamples() {
    }

    public static void main(String[] args) throws Exception {
        if (args.length != 1) {
            System.err.println("ReadmeExamples wants one argument: the page");
            System.exit(1);
        }
        String page = Files.readString(Path.of(args[0]), StandardCharsets.UTF_8);
        System.out.print(program(lines(page)));
    }

    /** The lines of all Java blocks that say something. */
    static List<String> lines(String page) {
        List<String> all = new ArrayList<>();
        Matcher block = BLOCK.matcher(page);
        while (block.find()) {
            for (String line : block.group(1).split("\n")) {
                if (!line.isBlank()) {
                    all.add(line);
                }
            }
        }
        return all;
    }

    static String program(List<String> lines) {
        StringBuilder all = new StringBuilder();
        all.append("public final class ReadmeRuns {\n")
            .append("    private static int wrong = 0;\n\n")
            .append("    private static void due(String call, long got, long want) {\n")
            .append("        if (got != want) {\n")
            .append("            wrong++;\n")
            .append("            System.out.println(\"README.md: \" + call + \" answered \" + got")
            .append(" + \", due is \" + want);\n")
            .append("        }\n    }\n\n")
            .append("    public static void main(String[] args) {\n");
        for (String line : lines) {
            all.append("        ").append(asked(line)).append('\n');
        }
        all.append("        asShown();\n")
            .append("        System.exit(wrong == 0 ? 0 : 1);\n    }\n\n")
            .append("    private static void asShown() {\n");
        for (String line : lines) {
            all.append("        ").append(line).append('\n');
        }
        return all.append("    }\n}\n").toString();
    }

    /** A line is an object that is made, or a call with its answer: no other stands unlooked at. */
    private static String asked(String line) {
        if (MADE.matcher(line).matches()) {
            return line;
        }
        Matcher call = CALL.matcher(line);
        if (!call.matches()) {
            throw new IllegalArgumentException("no call with its answer: " + line);
        }
        boolean named = call.group(2) != null;
        String told = "due(\"" + call.group(3) + "\", ";
        return named
            ? call.group(1) + " " + call.group(2) + " = " + call.group(3) + "; " + told
                + call.group(2) + ", " + call.group(4) + "L);"
            : told + call.group(3) + ", " + call.group(4) + "L);";
    }
}
