import com.sun.source.tree.CompilationUnitTree;
import com.sun.source.tree.MethodInvocationTree;
import com.sun.source.tree.MethodTree;
import com.sun.source.util.JavacTask;
import com.sun.source.util.TreePathScanner;
import com.sun.source.util.Trees;
import java.io.IOException;
import java.nio.file.Path;
import java.util.Collections;
import java.util.List;
import java.util.Map;
import java.util.Set;
import java.util.TreeMap;
import java.util.TreeSet;
import javax.lang.model.element.Element;
import javax.tools.JavaCompiler;
import javax.tools.StandardJavaFileManager;
import javax.tools.ToolProvider;

/** Rule 11 of LANGUAGE.md: calls that are no recursion go at most eight deep. */
public final class DepthTests {
    private static final int DEEPEST = 8;

    private final Map<String, Set<String>> calls = new TreeMap<>();
    private final Map<String, Set<String>> reached = new TreeMap<>();

    public static void main(String[] args) throws IOException {
        Path root = Path.of(args.length > 0 ? args[0] : ".");
        DepthTests tests = new DepthTests();
        tests.read(root.resolve("src/main/java/BonfireHeaps.java"));
        Due due = new Due();
        due.holds("no methods are found", tests.calls.size() > 34);
        for (String method : tests.calls.keySet()) {
            int depth = tests.depth(method);
            due.holds(method + " goes " + depth + " deep", depth <= DEEPEST);
        }
        due.end("DepthTests");
    }

    private void read(Path file) throws IOException {
        JavaCompiler compiler = ToolProvider.getSystemJavaCompiler();
        try (StandardJavaFileManager files = compiler.getStandardFileManager(null, null, null)) {
            JavacTask task = (JavacTask) compiler.getTask(null, files, null, List.of("-proc:none"), null,
                files.getJavaFileObjects(file));
            Iterable<? extends CompilationUnitTree> units = task.parse();
            task.analyze();
            Trees trees = Trees.instance(task);
            for (CompilationUnitTree unit : units) {
                new Calls(trees).scan(unit, null);
            }
        }
    }

    private static String nameOf(Element method) {
        return method.getEnclosingElement().getSimpleName() + "." + method;
    }

    private final class Calls extends TreePathScanner<Void, String> {
        private final Trees trees;

        Calls(Trees trees) {
            this.trees = trees;
        }

        @Override public Void visitMethod(MethodTree method, String within) {
            String name = nameOf(trees.getElement(getCurrentPath()));
            calls.computeIfAbsent(name, k -> new TreeSet<>());
            return super.visitMethod(method, name);
        }

        @Override public Void visitMethodInvocation(MethodInvocationTree call, String within) {
            Element called = trees.getElement(getCurrentPath());
            if (within != null && called != null) {
                calls.get(within).add(nameOf(called));
            }
            return super.visitMethodInvocation(call, within);
        }
    }

    private Set<String> callsOf(String method) {
        return calls.getOrDefault(method, Collections.emptySet());
    }

    private Set<String> reachedFrom(String method) {
        Set<String> seen = reached.get(method);
        if (seen == null) {
            seen = new TreeSet<>();
            reach(method, seen);
            reached.put(method, seen);
        }
        return seen;
    }

    private void reach(String method, Set<String> seen) {
        for (String called : callsOf(method)) {
            if (seen.add(called)) {
                reach(called, seen);
            }
        }
    }

    /** Methods that call one another in a ring count as one; what the library calls is not counted. */
    private int depth(String method) {
        Set<String> ring = new TreeSet<>(Set.of(method));
        for (String called : reachedFrom(method)) {
            if (reachedFrom(called).contains(method)) {
                ring.add(called);
            }
        }
        int deepest = 0;
        for (String one : ring) {
            for (String called : callsOf(one)) {
                if (calls.containsKey(called) && !ring.contains(called)) {
                    deepest = Math.max(deepest, depth(called));
                }
            }
        }
        return deepest + 1;
    }
}
