import com.sun.source.tree.CompilationUnitTree;
import com.sun.source.tree.MethodInvocationTree;
import com.sun.source.tree.MethodTree;
import com.sun.source.tree.NewClassTree;
import com.sun.source.util.JavacTask;
import com.sun.source.util.TreePathScanner;
import com.sun.source.util.Trees;
import java.io.File;
import java.util.HashMap;
import java.util.List;
import java.util.Map;
import java.util.Set;
import java.util.TreeSet;
import javax.lang.model.element.Element;
import javax.tools.JavaCompiler;
import javax.tools.StandardJavaFileManager;
import javax.tools.ToolProvider;

/** LANGUAGE.md, rule 11: calls that are no recursion go at most eight deep; rule 8: who recurs. */
public final class CallDepthTest {
    private static final int MOST_DEEP = 8;
    private static final Set<String> RECUR = Set.of("NamedPrices.Voices.say",
        "NamedPrices.Voices.work");

    private static final Map<String, Set<String>> CALLS = new HashMap<>();

    public static void main(String[] args) throws Exception {
        File source = new File("src/main/java/NamedPrices.java");
        JavaCompiler compiler = ToolProvider.getSystemJavaCompiler();
        if (compiler == null) {
            System.out.println("this java has no compiler in it: how deep calls go is not looked at");
            return;
        }
        StandardJavaFileManager files = compiler.getStandardFileManager(null, null, null);
        JavacTask task = (JavacTask) compiler.getTask(null, files, null, List.of("-proc:none"), null,
            files.getJavaFileObjects(source));
        Iterable<? extends CompilationUnitTree> units = task.parse();
        task.analyze();
        for (CompilationUnitTree unit : units) {
            new Calls(Trees.instance(task)).scan(unit, null);
        }
        Due.holds("methods were found", CALLS.size() > 100);
        Set<String> recur = new TreeSet<>();
        for (String method : CALLS.keySet()) {
            if (reaches(method, method, new TreeSet<>())) {
                recur.add(method);
            }
        }
        Due.holds("none recurs but say and work, not " + recur, RECUR.equals(recur));
        for (String method : CALLS.keySet()) {
            int deep = deep(method, new TreeSet<>());
            Due.holds(method + " goes " + deep + " deep", deep <= MOST_DEEP);
        }
        Due.end();
    }

    private static boolean reaches(String from, String to, Set<String> seen) {
        for (String called : CALLS.getOrDefault(from, Set.of())) {
            if (called.equals(to) || seen.add(called) && reaches(called, to, seen)) {
                return true;
            }
        }
        return false;
    }

    /** How many methods of the class stand open at once, this one and each that recurs once. */
    private static int deep(String method, Set<String> open) {
        if (!open.add(method)) {
            return 0;
        }
        int most = 0;
        for (String called : CALLS.getOrDefault(method, Set.of())) {
            most = Math.max(most, deep(called, open));
        }
        open.remove(method);
        return most + 1;
    }

    /** Which method of the class calls which; constructors are methods, too. */
    private static final class Calls extends TreePathScanner<Void, Void> {
        private final Trees trees;
        private String in = "";

        Calls(Trees trees) {
            this.trees = trees;
        }

        @Override
        public Void visitMethod(MethodTree method, Void none) {
            in = nameOf(trees.getElement(getCurrentPath()));
            CALLS.computeIfAbsent(in, name -> new TreeSet<>());
            return super.visitMethod(method, none);
        }

        @Override
        public Void visitMethodInvocation(MethodInvocationTree call, Void none) {
            add();
            return super.visitMethodInvocation(call, none);
        }

        @Override
        public Void visitNewClass(NewClassTree made, Void none) {
            add();
            return super.visitNewClass(made, none);
        }

        private void add() {
            Element called = trees.getElement(getCurrentPath());
            if (called != null && nameOf(called).startsWith("NamedPrices")) {
                CALLS.computeIfAbsent(in, name -> new TreeSet<>()).add(nameOf(called));
            }
        }

        /** No class has two methods of one name. */
        private static String nameOf(Element method) {
            return method.getEnclosingElement() + "." + method.getSimpleName();
        }
    }
}
