import com.sun.source.tree.CompilationUnitTree;
import com.sun.source.tree.ExpressionTree;
import com.sun.source.tree.MethodInvocationTree;
import com.sun.source.tree.MethodTree;
import com.sun.source.tree.NewClassTree;
import com.sun.source.util.JavacTask;
import com.sun.source.util.TreePath;
import com.sun.source.util.TreePathScanner;
import com.sun.source.util.Trees;
import java.nio.file.Path;
import java.util.HashMap;
import java.util.LinkedHashMap;
import java.util.LinkedHashSet;
import java.util.List;
import java.util.Map;
import java.util.Set;
import javax.lang.model.element.Element;
import javax.tools.JavaCompiler;
import javax.tools.StandardJavaFileManager;
import javax.tools.ToolProvider;

/** Rule 11 of LANGUAGE.md: how many parameters and lines a method has, and how deep calls go. */
final class ShapeTest {
    private static final int MOST_PARAMETERS = 7;
    private static final int MOST_LINES = 60;
    private static final int DEEPEST = 8;

    private final Checks checks;
    private final String source;
    /** For each method and constructor of the program those that it calls, the library's too. */
    private final Map<Element, Set<Element>> calls = new LinkedHashMap<>();
    private final Map<Element, Integer> depths = new HashMap<>();

    ShapeTest(Checks checks, String source) {
        this.checks = checks;
        this.source = source;
    }

    void run() throws Exception {
        checks.begin("LANGUAGE.md, rule 11");
        JavaCompiler compiler = ToolProvider.getSystemJavaCompiler();
        try (StandardJavaFileManager files = compiler.getStandardFileManager(null, null, null)) {
            JavacTask task = (JavacTask) compiler.getTask(null, files, null, List.of("-proc:none"), null,
                files.getJavaFileObjects(Path.of(source)));
            Iterable<? extends CompilationUnitTree> units = task.parse();
            task.analyze();
            Trees trees = Trees.instance(task);
            for (CompilationUnitTree unit : units) {
                new Reader(trees, unit).scan(unit, null);
            }
        }
        checks.hold(calls.size() > 50, "only " + calls.size() + " methods were found");
        for (Element method : calls.keySet()) {
            int depth = depth(method, 1);
            checks.hold(depth <= DEEPEST, "calls from " + method + " go " + depth + " deep");
        }
    }

    /** The longest chain of calls; a recursion would show as one that is far too long. */
    private int depth(Element method, int above) {
        if (depths.containsKey(method)) {
            return depths.get(method);
        }
        int deepest = 0;
        if (above <= 4 * DEEPEST) {
            for (Element called : calls.getOrDefault(method, Set.of())) {
                deepest = Math.max(deepest, depth(called, above + 1));
            }
        }
        depths.put(method, deepest + 1);
        return deepest + 1;
    }

    private final class Reader extends TreePathScanner<Void, Void> {
        private final Trees trees;
        private final CompilationUnitTree unit;
        private Element current;

        Reader(Trees trees, CompilationUnitTree unit) {
            this.trees = trees;
            this.unit = unit;
        }

        @Override
        public Void visitMethod(MethodTree method, Void nothing) {
            current = trees.getElement(getCurrentPath());
            calls.put(current, new LinkedHashSet<>());
            long lines = line(trees.getSourcePositions().getEndPosition(unit, method))
                - line(trees.getSourcePositions().getStartPosition(unit, method)) + 1;
            checks.hold(lines <= MOST_LINES, method.getName() + " has " + lines + " lines");
            int parameters = method.getParameters().size();
            checks.hold(parameters <= MOST_PARAMETERS, method.getName() + " has " + parameters + " parameters");
            return super.visitMethod(method, nothing);
        }

        private long line(long position) {
            return unit.getLineMap().getLineNumber(Math.max(position, 0));
        }

        @Override
        public Void visitMethodInvocation(MethodInvocationTree call, Void nothing) {
            add(call.getMethodSelect());
            return super.visitMethodInvocation(call, nothing);
        }

        @Override
        public Void visitNewClass(NewClassTree made, Void nothing) {
            add(made);
            return super.visitNewClass(made, nothing);
        }

        private void add(ExpressionTree call) {
            Element called = trees.getElement(new TreePath(getCurrentPath(), call));
            if (current != null && called != null && !called.toString().equals("Object()")) {
                calls.get(current).add(called);
            }
        }
    }
}
