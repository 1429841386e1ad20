import com.sun.source.tree.CompilationUnitTree;
import com.sun.source.tree.MethodInvocationTree;
import com.sun.source.tree.MethodTree;
import com.sun.source.tree.NewClassTree;
import com.sun.source.util.JavacTask;
import com.sun.source.util.TreePathScanner;
import com.sun.source.util.Trees;
import java.nio.file.Path;
import java.util.ArrayList;
import java.util.List;
import java.util.Map;
import java.util.TreeMap;
import java.util.TreeSet;
import javax.lang.model.element.Element;
import javax.tools.JavaCompiler;
import javax.tools.StandardJavaFileManager;
import javax.tools.ToolProvider;

/** LANGUAGE.md, rules 8 and 11: calls inside the class go at most eight deep, and none comes back to itself. */
public final class DepthTest {
    private static final int DEEPEST = 8;
    private static final Due due = new Due();

    /** Each method of the class and of those inside it, with the methods of these that it calls. */
    private static final Map<String, TreeSet<String>> calls = new TreeMap<>();

    public static void main(String[] args) throws Exception {
        readCalls(Path.of("src/main/java/GriefGlue.java"));
        due.isTrue("the class has methods", calls.containsKey("GriefGlue.digest()"));
        for (String method : calls.keySet()) {
            List<String> deepest = deepestFrom(method, new ArrayList<>());
            due.isTrue(deepest + " is at most " + DEEPEST + " deep", deepest.size() <= DEEPEST);
        }
        due.end();
    }

    private static void readCalls(Path source) throws Exception {
        JavaCompiler compiler = ToolProvider.getSystemJavaCompiler();
        try (StandardJavaFileManager files = compiler.getStandardFileManager(null, null, null)) {
            JavacTask task = (JavacTask) compiler.getTask(
                null, files, null, List.of("-proc:none"), null, files.getJavaFileObjects(source));
            Iterable<? extends CompilationUnitTree> units = task.parse();
            task.analyze();
            CallReader reader = new CallReader(Trees.instance(task));
            for (CompilationUnitTree unit : units) {
                reader.scan(unit, null);
            }
        }
    }

    /** The longest chain of calls that begins with a method, cut where it comes back to one that stands open. */
    private static List<String> deepestFrom(String method, List<String> open) {
        due.isTrue(method + " does not come back to itself through " + open, !open.contains(method));
        List<String> deepest = new ArrayList<>();
        if (!open.contains(method)) {
            List<String> openThen = new ArrayList<>(open);
            openThen.add(method);
            for (String called : calls.getOrDefault(method, new TreeSet<>())) {
                List<String> chain = deepestFrom(called, openThen);
                if (chain.size() > deepest.size()) {
                    deepest = chain;
                }
            }
        }
        deepest.add(0, method);
        return deepest;
    }

    private static final class CallReader extends TreePathScanner<Void, String> {
        private final Trees trees;

        CallReader(Trees trees) {
            this.trees = trees;
        }

        @Override
        public Void visitMethod(MethodTree tree, String caller) {
            String name = nameOf(trees.getElement(getCurrentPath()));
            calls.putIfAbsent(name, new TreeSet<>());
            return super.visitMethod(tree, name);
        }

        @Override
        public Void visitMethodInvocation(MethodInvocationTree tree, String caller) {
            noteCall(caller);
            return super.visitMethodInvocation(tree, caller);
        }

        @Override
        public Void visitNewClass(NewClassTree tree, String caller) {
            noteCall(caller);
            return super.visitNewClass(tree, caller);
        }

        private void noteCall(String caller) {
            String called = nameOf(trees.getElement(getCurrentPath()));
            if (caller != null && called.startsWith("GriefGlue.")) {
                calls.computeIfAbsent(caller, none -> new TreeSet<>()).add(called);
            }
        }

        private static String nameOf(Element method) {
            return method == null ? "" : method.getEnclosingElement() + "." + method;
        }
    }
}
