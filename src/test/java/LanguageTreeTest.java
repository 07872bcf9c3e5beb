import com.sun.source.tree.CompilationUnitTree;
import com.sun.source.tree.LineMap;
import com.sun.source.tree.MethodInvocationTree;
import com.sun.source.tree.MethodTree;
import com.sun.source.tree.NewArrayTree;
import com.sun.source.tree.NewClassTree;
import com.sun.source.tree.Tree;
import com.sun.source.util.JavacTask;
import com.sun.source.util.TreePath;
import com.sun.source.util.TreePathScanner;
import com.sun.source.util.Trees;
import java.io.IOException;
import java.util.EnumSet;
import java.util.HashMap;
import java.util.HashSet;
import java.util.LinkedHashMap;
import java.util.LinkedHashSet;
import java.util.List;
import java.util.Map;
import java.util.Set;
import javax.lang.model.element.Element;
import javax.lang.model.element.Modifier;
import javax.tools.JavaCompiler;
import javax.tools.StandardJavaFileManager;
import javax.tools.ToolProvider;

/** What ../shared/LANGUAGE.md rules out and the compiler's own tree of the source shows: library, statements, depth of calls. */
public final class LanguageTreeTest extends TreePathScanner<Void, Element> {
    private static final Set<Tree.Kind> RULED_OUT = EnumSet.of(Tree.Kind.THROW, Tree.Kind.TRY, Tree.Kind.CATCH,
        Tree.Kind.SYNCHRONIZED, Tree.Kind.ASSERT, Tree.Kind.LAMBDA_EXPRESSION, Tree.Kind.MEMBER_REFERENCE,
        Tree.Kind.SWITCH_EXPRESSION, Tree.Kind.ANNOTATION, Tree.Kind.PACKAGE, Tree.Kind.FLOAT_LITERAL, Tree.Kind.DOUBLE_LITERAL);
    // those of rule 4 that the class has a use for
    private static final Set<String> LIBRARY = Set.of("java.lang.String.length", "java.lang.String.charAt", "java.lang.Math.abs",
        "java.lang.Math.min", "java.lang.Math.max", "java.lang.Math.floorDiv", "java.lang.Math.floorMod",
        "java.lang.System.arraycopy", "java.util.Arrays.fill", "java.lang.Object.<init>");
    private static final int DEEPEST = 8;

    private final Trees trees;
    private final CompilationUnitTree unit;
    private final Map<Element, Set<Element>> calls = new LinkedHashMap<>();

    private LanguageTreeTest(JavacTask task) throws IOException {
        unit = task.parse().iterator().next();
        task.analyze();
        trees = Trees.instance(task);
    }

    public static void main(String[] args) throws IOException {
        JavaCompiler compiler = ToolProvider.getSystemJavaCompiler();
        try (StandardJavaFileManager files = compiler.getStandardFileManager(null, null, null)) {
            JavacTask task = (JavacTask) compiler.getTask(null, files, null, List.of("-proc:none"), null,
                files.getJavaFileObjects("src/main/java/PictureBlock.java"));
            new LanguageTreeTest(task).look();
        }
        Checks.finish("LanguageTreeTest");
    }

    private void look() {
        scan(unit, null);
        Map<Element, Integer> depths = new HashMap<>();
        Set<String> open = new HashSet<>();
        for (Element method : calls.keySet()) {
            Checks.due("calls deep from " + method, depth(method, depths, 0) <= DEEPEST, true);
            if (method.getModifiers().contains(Modifier.PUBLIC)) open.add(method.getSimpleName().toString());
        }
        Set<Element> used = new HashSet<>();
        for (Set<Element> some : calls.values()) used.addAll(some);
        for (Element method : calls.keySet()) {
            if (method.getModifiers().contains(Modifier.PUBLIC) || method.getSimpleName().contentEquals("<init>")) continue;
            Checks.due("a public one's name: " + method, open.contains(method.getSimpleName().toString()), false);
            Checks.due("used: " + method, used.contains(method), true);
        }
    }

    /** How deep calls go from a method on, the library's own first step too; recursion shows as far too deep. */
    private int depth(Element method, Map<Element, Integer> depths, int ahead) {
        if (ahead > DEEPEST || depths.containsKey(method)) return depths.getOrDefault(method, ahead);
        int below = 0;
        for (Element called : calls.getOrDefault(method, Set.of())) below = Math.max(below, depth(called, depths, ahead + 1));
        depths.put(method, below + 1);
        return below + 1;
    }

    @Override
    public Void scan(Tree tree, Element method) {
        if (tree != null) Checks.due("ruled out: " + tree.getKind(), RULED_OUT.contains(tree.getKind()), false);
        return super.scan(tree, method);
    }

    @Override
    public Void visitMethod(MethodTree tree, Element outer) {
        Element method = trees.getElement(getCurrentPath());
        calls.put(method, new LinkedHashSet<>());
        LineMap lines = unit.getLineMap();
        long first = lines.getLineNumber(trees.getSourcePositions().getStartPosition(unit, tree));
        long last = lines.getLineNumber(trees.getSourcePositions().getEndPosition(unit, tree));
        Checks.due("lines of " + method, last - first < 60, true);
        Checks.due("parameters of " + method, tree.getParameters().size() <= 7, true);
        return super.visitMethod(tree, method);
    }

    @Override
    public Void visitMethodInvocation(MethodInvocationTree tree, Element method) {
        note(trees.getElement(new TreePath(getCurrentPath(), tree.getMethodSelect())), method);
        return super.visitMethodInvocation(tree, method);
    }

    @Override
    public Void visitNewClass(NewClassTree tree, Element method) {
        note(trees.getElement(getCurrentPath()), method);
        // all is made once for all calls: no call makes an object
        Checks.due("made in " + method, method != null && method.getSimpleName().contentEquals("<init>"), true);
        return super.visitNewClass(tree, method);
    }

    @Override
    public Void visitNewArray(NewArrayTree tree, Element method) {
        Checks.due("row made in " + method, method == null || method.getSimpleName().contentEquals("<init>"), true);
        return super.visitNewArray(tree, method);
    }

    private void note(Element called, Element method) {
        String owner = called.getEnclosingElement().toString();
        if (!owner.startsWith("PictureBlock")) {
            String name = owner + "." + called.getSimpleName();
            Checks.due("of the library: " + name, LIBRARY.contains(name), true);
        }
        if (method != null) calls.get(method).add(called);
    }
}
