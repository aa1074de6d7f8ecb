import com.sun.source.tree.CompilationUnitTree;
import com.sun.source.tree.MethodInvocationTree;
import com.sun.source.tree.MethodTree;
import com.sun.source.tree.NewClassTree;
import com.sun.source.util.JavacTask;
import com.sun.source.util.TreePathScanner;
import com.sun.source.util.Trees;
import java.io.IOException;
import java.nio.file.Path;
import java.util.ArrayDeque;
import java.util.Deque;
import java.util.LinkedHashMap;
import java.util.LinkedHashSet;
import java.util.Map;
import java.util.Set;
import javax.lang.model.element.Element;
import javax.lang.model.element.ElementKind;
import javax.lang.model.element.Modifier;
import javax.tools.JavaCompiler;
import javax.tools.StandardJavaFileManager;
import javax.tools.ToolProvider;

/**
 * Rules 8, 11 and 12 of LANGUAGE.md, by the calls that the compiler finds in the class: none comes back to
 * itself, none goes deeper than eight, holders are all that is made behind the constructors, and what makes
 * an object calls nothing and hands nothing of it out.
 * Run from the project's folder.
 */
public final class CallDepthTest {
    private static final Path SOURCE = Path.of("src/main/java/PoplarQueue.java");
    private static final int DEEPEST = 8;

    private static final Due d = new Due("CallDepthTest");
    private static final Map<Element, Set<Element>> CALLS = new LinkedHashMap<>();

    public static void main(String[] args) throws IOException {
        readCalls();
        for (Element method : CALLS.keySet()) {
            if (method.getModifiers().contains(Modifier.PUBLIC)) {
                int depth = depthOf(method, new ArrayDeque<>());
                d.holds(method + " goes " + depth + " deep", depth <= DEEPEST);
            }
        }
        d.end();
    }

    private static void readCalls() throws IOException {
        JavaCompiler compiler = ToolProvider.getSystemJavaCompiler();
        StandardJavaFileManager files = compiler.getStandardFileManager(null, null, null);
        JavacTask task = (JavacTask) compiler.getTask(null, files, null, null, null, files.getJavaFileObjects(SOURCE));
        Iterable<? extends CompilationUnitTree> units = task.parse();
        task.analyze();
        for (CompilationUnitTree unit : units) {
            new Scanner(Trees.instance(task)).scan(unit, null);
        }
    }

    private static int depthOf(Element method, Deque<Element> open) {
        d.holds(method + " does not come back to itself", !open.contains(method));
        if (open.contains(method)) {
            return 0;
        }
        open.push(method);
        int deepest = 0;
        for (Element called : CALLS.getOrDefault(method, Set.of())) {
            deepest = Math.max(deepest, CALLS.containsKey(called) ? depthOf(called, open) : 0);
        }
        open.pop();
        return deepest + 1;
    }

    /** The element that goes along is the method inside which the scanner is. */
    private static final class Scanner extends TreePathScanner<Void, Element> {
        private final Trees trees;

        Scanner(Trees trees) {
            this.trees = trees;
        }

        @Override
        public Void visitMethod(MethodTree method, Element outer) {
            Element here = trees.getElement(getCurrentPath());
            CALLS.put(here, new LinkedHashSet<>());
            return super.visitMethod(method, here);
        }

        @Override
        public Void visitMethodInvocation(MethodInvocationTree call, Element here) {
            if (isMaking(here)) {
                String name = call.getMethodSelect().toString();
                d.holds("a constructor or a field's first value calls " + name, name.equals("super"));
            } else {
                CALLS.get(here).add(trees.getElement(getCurrentPath()));
            }
            return super.visitMethodInvocation(call, here);
        }

        @Override
        public Void visitNewClass(NewClassTree made, Element here) {
            if (isMaking(here)) {
                d.holds("a constructor or a field's first value hands out " + made.getArguments(), made.getArguments().isEmpty());
            } else {
                d.holds(here + " makes a " + made.getIdentifier(), made.getIdentifier().toString().equals("Holder"));
            }
            return super.visitNewClass(made, here);
        }

        /** A field's first value stands in no method at all. */
        private static boolean isMaking(Element here) {
            return here == null || here.getKind() == ElementKind.CONSTRUCTOR;
        }
    }
}
