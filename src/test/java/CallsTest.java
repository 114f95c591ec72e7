import com.sun.source.tree.CompilationUnitTree;
import com.sun.source.tree.MethodInvocationTree;
import com.sun.source.tree.MethodTree;
import com.sun.source.tree.NewClassTree;
import com.sun.source.tree.Tree;
import com.sun.source.util.JavacTask;
import com.sun.source.util.TreePath;
import com.sun.source.util.TreePathScanner;
import com.sun.source.util.Trees;
import java.io.IOException;
import java.nio.file.Path;
import java.util.ArrayDeque;
import java.util.Deque;
import java.util.HashSet;
import java.util.List;
import java.util.Map;
import java.util.Set;
import java.util.TreeMap;
import javax.lang.model.element.Element;
import javax.tools.JavaCompiler;
import javax.tools.StandardJavaFileManager;
import javax.tools.ToolProvider;

/** Who calls whom in the class: rules 8 and 11 of the language, told from the source by the compiler's own trees. */
public final class CallsTest {
    private static final int MOST_DEEP = 8;
    private static final int MOST_OPEN = 300;
    /** Eight levels that are open, and the one around them. */
    private static final int LEVELS = 9;

    private final Checks checks = new Checks();
    private final Map<String, Set<String>> calls = new TreeMap<>();
    private final Map<String, Set<String>> reached = new TreeMap<>();

    public static void main(String[] args) throws IOException {
        CallsTest test = new CallsTest();
        test.read(Path.of(System.getProperty("wrongend.source", "src/main/java/WrongEnd.java")));
        test.plainCalls();
        test.recursion();
        test.checks.finish("CallsTest");
    }

    private void read(Path source) throws IOException {
        JavaCompiler compiler = ToolProvider.getSystemJavaCompiler();
        try (StandardJavaFileManager files = compiler.getStandardFileManager(null, null, null)) {
            JavacTask task = (JavacTask) compiler.getTask(null, files, null, List.of("-proc:none"), null,
                    files.getJavaFileObjects(source));
            Iterable<? extends CompilationUnitTree> units = task.parse();
            task.analyze();
            for (CompilationUnitTree unit : units) {
                new Scanner(Trees.instance(task)).scan(unit, null);
            }
        }
        for (String method : calls.keySet()) {
            reached.put(method, reach(method));
        }
        checks.due("methods are found", calls.size() > 100, true);
    }

    /** Puts down for each method which ones it names, the library's too. */
    private final class Scanner extends TreePathScanner<Void, Void> {
        private final Trees trees;
        private String caller = "";

        Scanner(Trees trees) {
            this.trees = trees;
        }

        @Override
        public Void visitMethod(MethodTree tree, Void none) {
            String outer = caller;
            caller = nameOf(tree);
            calls.computeIfAbsent(caller, key -> new HashSet<>());
            super.visitMethod(tree, none);
            caller = outer;
            return null;
        }

        @Override
        public Void visitMethodInvocation(MethodInvocationTree tree, Void none) {
            addCall(tree);
            return super.visitMethodInvocation(tree, none);
        }

        @Override
        public Void visitNewClass(NewClassTree tree, Void none) {
            addCall(tree);
            return super.visitNewClass(tree, none);
        }

        /** What a field's initialiser calls is no method's own: it counts for the constructors, which are shallow. */
        private void addCall(Tree tree) {
            if (!caller.isEmpty()) {
                calls.get(caller).add(nameOf(tree));
            }
        }

        private String nameOf(Tree tree) {
            Element element = trees.getElement(new TreePath(getCurrentPath(), tree));
            return element.getEnclosingElement() + "." + element;
        }
    }

    private Set<String> reach(String from) {
        Set<String> found = new HashSet<>();
        Deque<String> open = new ArrayDeque<>(calls.getOrDefault(from, Set.of()));
        while (!open.isEmpty()) {
            String next = open.pop();
            if (found.add(next)) {
                open.addAll(calls.getOrDefault(next, Set.of()));
            }
        }
        return found;
    }

    private boolean isRecursive(String method) {
        return reached.getOrDefault(method, Set.of()).contains(method);
    }

    /** "calls that are no recursion go at most eight deep": the library's are counted. */
    private void plainCalls() {
        for (String method : calls.keySet()) {
            if (!isRecursive(method)) {
                int deep = depth(method);
                checks.due(method + " goes " + deep + " deep", deep <= MOST_DEEP, true);
            }
        }
    }

    /** How many methods stand on the longest chain that goes through no recursion. */
    private int depth(String method) {
        int deepest = 0;
        for (String next : calls.getOrDefault(method, Set.of())) {
            if (!isRecursive(next)) {
                deepest = Math.max(deepest, depth(next));
            }
        }
        return deepest + 1;
    }

    /** "the calls that stand open at once stay under 300", and each recursion is told its depth. */
    private void recursion() {
        int methods = 0;
        for (String method : calls.keySet()) {
            if (isRecursive(method)) {
                methods++;
                checks.due(method + " is told the depth", method.endsWith("(int)"), true);
            }
        }
        checks.due(methods + " methods call one another", methods > 0 && methods * LEVELS + MOST_DEEP < MOST_OPEN, true);
    }
}
