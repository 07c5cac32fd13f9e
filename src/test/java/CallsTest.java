import com.sun.source.tree.ClassTree;
import com.sun.source.tree.CompilationUnitTree;
import com.sun.source.tree.MethodInvocationTree;
import com.sun.source.tree.MethodTree;
import com.sun.source.tree.NewClassTree;
import com.sun.source.tree.Tree;
import com.sun.source.util.JavacTask;
import com.sun.source.util.TreePathScanner;
import com.sun.source.util.Trees;
import java.nio.file.Path;
import java.util.ArrayList;
import java.util.HashMap;
import java.util.HashSet;
import java.util.List;
import java.util.Map;
import java.util.Set;
import java.util.TreeSet;
import javax.lang.model.element.Element;
import javax.tools.JavaCompiler;
import javax.tools.StandardJavaFileManager;
import javax.tools.ToolProvider;

/** Rules 8 and 11 of LANGUAGE.md, by which method calls which: how deep calls go, and what calls itself. */
public final class CallsTest {
    private static final Path PROGRAM = Path.of("src/main/java/TippedCrates.java");
    /** Methods that may come back to themselves, each with a depth that it looks at. */
    private static final Set<String> RECURSIVE = Set.of("readSum", "readProduct", "readUnit", "tryRows",
            "spellFrom", "playFrom");

    private static final Map<Element, Set<Element>> CALLS = new HashMap<>();
    private static final Map<Element, Integer> DEPTHS = new HashMap<>();

    private CallsTest() {
    }

    public static void main(String[] args) throws Exception {
        findCalls();
        Check.due("methods and constructors seen: " + CALLS.size(), CALLS.size() > 120, true);
        onlyTheseCallThemselves();
        callsGoEightDeep();
        everyMethodIsUsed();
        Check.end("CallsTest");
    }

    private static void findCalls() throws Exception {
        JavaCompiler compiler = ToolProvider.getSystemJavaCompiler();
        try (StandardJavaFileManager files = compiler.getStandardFileManager(null, null, null)) {
            JavacTask task = (JavacTask) compiler.getTask(null, files, null, List.of("-proc:none"), null,
                    files.getJavaFileObjects(PROGRAM));
            Iterable<? extends CompilationUnitTree> units = task.parse();
            task.analyze();
            for (CompilationUnitTree unit : units) {
                new Scanner(Trees.instance(task)).scan(unit, null);
            }
        }
        // What the library has is no call of the program's own.
        for (Set<Element> called : CALLS.values()) {
            called.retainAll(CALLS.keySet());
        }
    }

    /** Notes the calls of each method, and those of a class's field initialisers as its constructor's. */
    private static final class Scanner extends TreePathScanner<Void, Element> {
        private final Trees trees;

        Scanner(Trees trees) {
            this.trees = trees;
        }

        @Override
        public Void visitClass(ClassTree tree, Element within) {
            Element constructor = null;
            for (Tree member : tree.getMembers()) {
                Element element = trees.getElement(new com.sun.source.util.TreePath(getCurrentPath(), member));
                if (member instanceof MethodTree method && method.getName().contentEquals("<init>")) {
                    constructor = element;
                    CALLS.putIfAbsent(element, new HashSet<>());
                }
            }
            return super.visitClass(tree, constructor);
        }

        @Override
        public Void visitMethod(MethodTree tree, Element within) {
            Element method = trees.getElement(getCurrentPath());
            CALLS.putIfAbsent(method, new HashSet<>());
            return super.visitMethod(tree, method);
        }

        @Override
        public Void visitMethodInvocation(MethodInvocationTree tree, Element within) {
            note(within);
            return super.visitMethodInvocation(tree, within);
        }

        @Override
        public Void visitNewClass(NewClassTree tree, Element within) {
            note(within);
            return super.visitNewClass(tree, within);
        }

        private void note(Element within) {
            Element called = trees.getElement(getCurrentPath());
            if (within != null && called != null) {
                CALLS.computeIfAbsent(within, e -> new HashSet<>()).add(called);
            }
        }
    }

    private static Set<Element> reached(Element from) {
        Set<Element> seen = new HashSet<>();
        List<Element> waiting = new ArrayList<>(CALLS.get(from));
        while (!waiting.isEmpty()) {
            Element next = waiting.remove(waiting.size() - 1);
            if (seen.add(next)) {
                waiting.addAll(CALLS.get(next));
            }
        }
        return seen;
    }

    private static void onlyTheseCallThemselves() {
        Set<String> seen = new TreeSet<>();
        for (Element method : CALLS.keySet()) {
            if (reached(method).contains(method)) {
                seen.add(method.getSimpleName().toString());
            }
        }
        Check.due("call themselves: " + seen, seen.equals(new TreeSet<>(RECURSIVE)), true);
    }

    /** Those that call one another count as often as they are many, but not once more for each level. */
    private static int depth(Element method) {
        Integer known = DEPTHS.get(method);
        if (known != null) {
            return known;
        }
        Set<Element> together = new HashSet<>();
        together.add(method);
        for (Element other : reached(method)) {
            if (reached(other).contains(method)) {
                together.add(other);
            }
        }
        int below = 0;
        for (Element one : together) {
            for (Element called : CALLS.get(one)) {
                below = together.contains(called) ? below : Math.max(below, depth(called));
            }
        }
        DEPTHS.put(method, below + together.size());
        return below + together.size();
    }

    private static void callsGoEightDeep() {
        int deepest = 0;
        for (Element method : CALLS.keySet()) {
            int depth = depth(method);
            deepest = Math.max(deepest, depth);
            Check.due("deep: " + method.getEnclosingElement() + "." + method + " goes " + depth, depth <= 8, true);
        }
        Check.due("the deepest: " + deepest, deepest > 5, true);
    }

    private static void everyMethodIsUsed() {
        Set<Element> called = new HashSet<>();
        CALLS.values().forEach(called::addAll);
        for (Element method : CALLS.keySet()) {
            boolean open = method.getModifiers().contains(javax.lang.model.element.Modifier.PUBLIC);
            Check.due("used: " + method, open || called.contains(method), true);
        }
    }
}
