import com.sun.source.tree.ClassTree;
import com.sun.source.tree.CompilationUnitTree;
import com.sun.source.tree.MethodInvocationTree;
import com.sun.source.tree.MethodTree;
import com.sun.source.tree.NewArrayTree;
import com.sun.source.tree.NewClassTree;
import com.sun.source.tree.Tree;
import com.sun.source.util.JavacTask;
import com.sun.source.util.TreePathScanner;
import com.sun.source.util.Trees;
import java.io.IOException;
import java.nio.file.Path;
import java.util.HashMap;
import java.util.HashSet;
import java.util.List;
import java.util.Map;
import java.util.Set;
import javax.lang.model.element.Element;
import javax.lang.model.element.ExecutableElement;
import javax.lang.model.element.Modifier;
import javax.tools.JavaCompiler;
import javax.tools.StandardJavaFileManager;
import javax.tools.ToolProvider;

/** The rules 6, 8, 11 and 12 of LANGUAGE.md, read off the class as the compiler sees it. */
public final class LanguageTest extends TreePathScanner<Void, Void> {
    private static final int MOST_LINES = 60;
    private static final int MOST_DEEP = 8;
    private static final int MOST_FIELDS = 20;
    private static final Set<Tree.Kind> RULED_OUT = Set.of(
        Tree.Kind.THROW, Tree.Kind.TRY, Tree.Kind.CATCH, Tree.Kind.SYNCHRONIZED, Tree.Kind.ASSERT,
        Tree.Kind.LAMBDA_EXPRESSION, Tree.Kind.MEMBER_REFERENCE, Tree.Kind.TYPE_CAST, Tree.Kind.INSTANCE_OF);
    private static final Set<String> LIBRARY = Set.of(
        "Math.abs", "Long.bitCount", "Arrays.fill", "System.arraycopy", "Object.<init>");

    private static final Due DUE = new Due();

    private final CompilationUnitTree unit;
    private final Trees trees;
    private final Map<Element, Set<Element>> calls = new HashMap<>();
    private MethodTree method;

    private LanguageTest(CompilationUnitTree unit, Trees trees) {
        this.unit = unit;
        this.trees = trees;
    }

    public static void main(String[] args) throws IOException {
        JavaCompiler compiler = ToolProvider.getSystemJavaCompiler();
        try (StandardJavaFileManager files = compiler.getStandardFileManager(null, null, null)) {
            JavacTask task = (JavacTask) compiler.getTask(null, files, null, List.of("-proc:none"), null,
                files.getJavaFileObjects(Path.of(System.getProperty("shirelines.source"))));
            CompilationUnitTree unit = task.parse().iterator().next();
            task.analyze();
            LanguageTest test = new LanguageTest(unit, Trees.instance(task));
            test.scan(unit, null);
            test.callsAreNotDeep();
        }
        DUE.end();
    }

    @Override
    public Void scan(Tree tree, Void nothing) {
        if (tree != null) {
            DUE.isTrue("no " + tree.getKind() + " in " + name(), !RULED_OUT.contains(tree.getKind()));
        }
        return super.scan(tree, nothing);
    }

    @Override
    public Void visitClass(ClassTree tree, Void nothing) {
        long fields = tree.getMembers().stream().filter(member -> member.getKind() == Tree.Kind.VARIABLE)
            .filter(member -> !elementOf(member).getModifiers().contains(Modifier.STATIC)).count();
        DUE.isTrue(tree.getSimpleName() + " has few fields", fields <= MOST_FIELDS);
        return super.visitClass(tree, nothing);
    }

    @Override
    public Void visitMethod(MethodTree tree, Void nothing) {
        method = tree;
        calls.put(elementOf(tree), new HashSet<>());
        long from = trees.getSourcePositions().getStartPosition(unit, tree);
        long to = trees.getSourcePositions().getEndPosition(unit, tree);
        long lines = unit.getLineMap().getLineNumber(to) - unit.getLineMap().getLineNumber(from) + 1;
        DUE.isTrue(name() + " is short", lines <= MOST_LINES);
        super.visitMethod(tree, nothing);
        method = null;
        return null;
    }

    @Override
    public Void visitMethodInvocation(MethodInvocationTree tree, Void nothing) {
        Element called = elementOf(tree);
        if (isOfTheLibrary(called)) {
            String shown = called.getEnclosingElement().getSimpleName() + "." + called.getSimpleName();
            DUE.isTrue(shown + " is of the library that is allowed", LIBRARY.contains(shown));
        } else if (method != null) {
            calls.get(elementOf(method)).add(called);
        }
        return super.visitMethodInvocation(tree, nothing);
    }

    @Override
    public Void visitNewClass(NewClassTree tree, Void nothing) {
        DUE.isTrue("objects are made in constructors, not in " + name(), isMadeOnce());
        return super.visitNewClass(tree, nothing);
    }

    @Override
    public Void visitNewArray(NewArrayTree tree, Void nothing) {
        DUE.isTrue("rows are made in constructors, not in " + name(), isMadeOnce());
        return super.visitNewArray(tree, nothing);
    }

    private boolean isMadeOnce() {
        return method == null || method.getReturnType() == null;
    }

    private String name() {
        return method == null ? "a class" : method.getName().toString();
    }

    private Element elementOf(Tree tree) {
        return trees.getElement(trees.getPath(unit, tree));
    }

    private static boolean isOfTheLibrary(Element called) {
        return ((ExecutableElement) called).getEnclosingElement().toString().startsWith("java.");
    }

    private void callsAreNotDeep() {
        DUE.isTrue("the face was seen", calls.size() > 30);
        for (Element each : calls.keySet()) {
            int deep = depth(each, new HashSet<>());
            DUE.isTrue(each + " goes " + deep + " calls deep", deep <= MOST_DEEP);
        }
    }

    private int depth(Element from, Set<Element> open) {
        DUE.isTrue(from + " calls itself", open.add(from));
        int deepest = 0;
        if (!DUE.hasWrong()) {
            for (Element next : calls.getOrDefault(from, Set.of())) {
                deepest = Math.max(deepest, depth(next, open));
            }
        }
        open.remove(from);
        return deepest + 1;
    }
}
