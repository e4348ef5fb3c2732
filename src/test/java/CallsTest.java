import com.sun.source.tree.ClassTree;
import com.sun.source.tree.CompilationUnitTree;
import com.sun.source.tree.MethodInvocationTree;
import com.sun.source.tree.MethodTree;
import com.sun.source.tree.NewArrayTree;
import com.sun.source.tree.NewClassTree;
import com.sun.source.tree.ThrowTree;
import com.sun.source.tree.VariableTree;
import com.sun.source.util.JavacTask;
import com.sun.source.util.TreePath;
import com.sun.source.util.TreePathScanner;
import com.sun.source.util.Trees;
import java.io.IOException;
import java.nio.file.Path;
import java.util.ArrayList;
import java.util.LinkedHashMap;
import java.util.LinkedHashSet;
import java.util.List;
import java.util.Map;
import java.util.Set;
import javax.lang.model.element.Element;
import javax.lang.model.element.ElementKind;
import javax.lang.model.element.Modifier;
import javax.tools.JavaCompiler;
import javax.tools.StandardJavaFileManager;
import javax.tools.ToolProvider;

/**
 * What of LANGUAGE.md is to be seen in who calls whom, as javac reads the class: rules 6, 8, 11 and 12. The path of
 * the source is the first argument.
 */
public final class CallsTest {
    private static final int DEEPEST = 8;
    private static final int MOST_PARAMETERS = 7;
    private static final int MOST_CLASSES = 12;
    private static final int MOST_FIELDS = 20;
    private static final String CONSTRUCTOR = "<init>";

    private final Map<String, Set<String>> calls = new LinkedHashMap<>();
    private int classes = 0;

    private CallsTest() {
    }

    public static void main(String[] args) throws IOException {
        CallsTest test = new CallsTest();
        test.read(Path.of(args.length > 0 ? args[0] : "src/main/java/GossipCounts.java"));
        test.judge();
        Check.end();
    }

    private void read(Path source) throws IOException {
        JavaCompiler javac = ToolProvider.getSystemJavaCompiler();
        try (StandardJavaFileManager files = javac.getStandardFileManager(null, null, null)) {
            JavacTask task = (JavacTask) javac.getTask(null, files, null, List.of("-proc:none"), null,
                    files.getJavaFileObjects(source));
            List<CompilationUnitTree> units = new ArrayList<>();
            task.parse().forEach(units::add);
            task.analyze();
            for (CompilationUnitTree unit : units) {
                new Reader(Trees.instance(task)).scan(unit, null);
            }
        }
    }

    /** Notes each method's calls of methods of the class, and holds each class and method against its limits. */
    private final class Reader extends TreePathScanner<Void, Void> {
        private final Trees trees;
        private String method = "";

        Reader(Trees trees) {
            this.trees = trees;
        }

        @Override
        public Void visitClass(ClassTree tree, Void nothing) {
            classes++;
            long fields = tree.getMembers().stream().filter(VariableTree.class::isInstance)
                    .filter(member -> !element(member).getModifiers().contains(Modifier.STATIC)).count();
            Check.equal("rule 11: " + tree.getSimpleName() + " has few fields", fields <= MOST_FIELDS, true);
            return super.visitClass(tree, nothing);
        }

        @Override
        public Void visitMethod(MethodTree tree, Void nothing) {
            method = name(element(tree));
            calls.put(method, new LinkedHashSet<>());
            Check.equal("rule 11: " + method + " has few parameters",
                    tree.getParameters().size() <= MOST_PARAMETERS, true);
            return super.visitMethod(tree, nothing);
        }

        @Override
        public Void visitMethodInvocation(MethodInvocationTree tree, Void nothing) {
            Element called = trees.getElement(getCurrentPath());
            if (called.getKind() == ElementKind.METHOD && outermost(called).equals("GossipCounts")) {
                calls.get(method).add(name(called));
            }
            return super.visitMethodInvocation(tree, nothing);
        }

        @Override
        public Void visitNewClass(NewClassTree tree, Void nothing) {
            boolean thrown = getCurrentPath().getParentPath().getLeaf() instanceof ThrowTree;
            Check.equal("rule 12: " + method + " makes " + tree, thrown || method.endsWith(CONSTRUCTOR), true);
            return super.visitNewClass(tree, nothing);
        }

        @Override
        public Void visitNewArray(NewArrayTree tree, Void nothing) {
            Check.equal("rule 12: " + method + " makes " + tree, method.endsWith(CONSTRUCTOR), true);
            return super.visitNewArray(tree, nothing);
        }

        @Override
        public Void visitThrow(ThrowTree tree, Void nothing) {
            Check.equal("rule 6: " + method + " throws", method.endsWith(CONSTRUCTOR), false);
            return super.visitThrow(tree, nothing);
        }

        private Element element(com.sun.source.tree.Tree tree) {
            return trees.getElement(TreePath.getPath(getCurrentPath(), tree));
        }

        private String outermost(Element element) {
            Element at = element;
            while (at.getEnclosingElement() != null && at.getEnclosingElement().getKind() != ElementKind.PACKAGE) {
                at = at.getEnclosingElement();
            }
            return at.getSimpleName().toString();
        }

        private String name(Element element) {
            return element.getEnclosingElement().getSimpleName() + "." + element.getSimpleName();
        }
    }

    private void judge() {
        Check.equal("methods were read", calls.size() > 30, true);
        Check.equal("rule 11: few classes", classes <= MOST_CLASSES, true);
        for (String method : calls.keySet()) {
            List<String> deepest = deepestFrom(method, new ArrayList<>());
            Check.equal("rule 11: " + deepest, deepest.size() <= DEEPEST, true);
        }
    }

    /** The longest chain of calls that stand open at once; a chain that comes back to itself breaks rule 8. */
    private List<String> deepestFrom(String method, List<String> open) {
        Check.equal("rule 8: " + open + " calls " + method + " again", open.contains(method), false);
        if (open.contains(method)) {
            return List.of();
        }
        open.add(method);
        List<String> deepest = List.of();
        for (String called : calls.getOrDefault(method, Set.of())) {
            List<String> below = deepestFrom(called, open);
            if (below.size() > deepest.size()) {
                deepest = below;
            }
        }
        open.remove(open.size() - 1);
        List<String> chain = new ArrayList<>();
        chain.add(method);
        chain.addAll(deepest);
        return chain;
    }
}
