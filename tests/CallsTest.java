import com.sun.source.tree.ClassTree;
import com.sun.source.tree.CompilationUnitTree;
import com.sun.source.tree.MethodInvocationTree;
import com.sun.source.tree.MethodTree;
import com.sun.source.tree.NewArrayTree;
import com.sun.source.tree.NewClassTree;
import com.sun.source.util.JavacTask;
import com.sun.source.util.TreePath;
import com.sun.source.util.TreePathScanner;
import com.sun.source.util.Trees;
import java.io.IOException;
import java.util.HashMap;
import java.util.HashSet;
import java.util.List;
import java.util.Map;
import java.util.Set;
import javax.lang.model.element.Element;
import javax.tools.JavaCompiler;
import javax.tools.StandardJavaFileManager;
import javax.tools.ToolProvider;

/**
 * Which method of the source calls which, as javac itself reads it: for the rules of ../shared/LANGUAGE.md that a
 * look at the text alone can't tell (4: the library, 11: how deep calls go, 12: what a call makes).
 */
public final class CallsTest extends TreePathScanner<Void, Void> {
    private static final int DEEPEST = 8;
    /** Of what rule 4 lists that which the class uses; another call of its list may come here too. */
    private static final Set<String> LIBRARY = Set.of(
        "java.lang.String.length", "java.lang.String.charAt", "java.lang.String.indexOf", "java.lang.Math.max",
        "java.lang.Math.min", "java.lang.Math.abs", "java.lang.System.arraycopy", "java.util.Arrays.fill");

    private final Check check;
    private final Trees trees;
    private final Map<String, Set<String>> calls = new HashMap<>();
    private final Set<String> beyond = new HashSet<>();
    private String method = "";

    private CallsTest(Check check, Trees trees) {
        this.check = check;
        this.trees = trees;
    }

    @Override
    public Void visitMethod(MethodTree tree, Void unused) {
        String outside = method;
        TreePath inside = getCurrentPath().getParentPath();
        method = ((ClassTree) inside.getLeaf()).getSimpleName() + "." + tree.getName();
        calls.putIfAbsent(method, new HashSet<>());
        super.visitMethod(tree, unused);
        method = outside;
        return null;
    }

    @Override
    public Void visitMethodInvocation(MethodInvocationTree tree, Void unused) {
        Element called = trees.getElement(new TreePath(getCurrentPath(), tree.getMethodSelect()));
        String holder = called.getEnclosingElement().toString();
        String name = called.getSimpleName().toString();
        if (holder.startsWith("DonkeyBridge")) {
            calls.get(method).add(called.getEnclosingElement().getSimpleName() + "." + name);
        } else if (!name.equals("<init>")) {
            beyond.add(holder + "." + name);
        }
        return super.visitMethodInvocation(tree, unused);
    }

    @Override
    public Void visitNewClass(NewClassTree tree, Void unused) {
        check.due(method + " makes " + tree, isConstructor() ? 1 : 0, 1);
        return super.visitNewClass(tree, unused);
    }

    @Override
    public Void visitNewArray(NewArrayTree tree, Void unused) {
        check.due(method + " makes " + tree, isConstructor() ? 1 : 0, 1);
        return super.visitNewArray(tree, unused);
    }

    /** Fields begin with the constructor, outside all methods. */
    private boolean isConstructor() {
        return method.isEmpty() || method.endsWith(".<init>");
    }

    /** The longest way from a method on, none gone through twice: recursion counts once. */
    private int deepest(String from, Set<String> open) {
        int below = 0;
        open.add(from);
        for (String next : calls.getOrDefault(from, Set.of())) {
            if (!open.contains(next)) {
                below = Math.max(below, deepest(next, open));
            }
        }
        open.remove(from);
        return below + 1;
    }

    private void lookAtAll() {
        check.about("Rule 4: the library: only what stands here");
        for (String call : beyond) {
            check.due(call, LIBRARY.contains(call) ? 1 : 0, 1);
        }
        check.about("Rule 11: calls that are no recursion go at most eight deep");
        int most = 0;
        for (String each : calls.keySet()) {
            int deep = deepest(each, new HashSet<>());
            check.due("deeper from " + each, Math.max(0, deep - DEEPEST), 0);
            most = Math.max(most, deep);
        }
        check.due("it finds calls", most >= 3 ? 1 : 0, 1);
    }

    public static void main(String[] args) throws IOException {
        Check c = new Check("CallsTest");
        JavaCompiler javac = ToolProvider.getSystemJavaCompiler();
        try (StandardJavaFileManager files = javac.getStandardFileManager(null, null, null)) {
            JavacTask task = (JavacTask) javac.getTask(null, files, null, List.of("-proc:none"), null,
                files.getJavaFileObjects("src/main/java/DonkeyBridge.java"));
            Iterable<? extends CompilationUnitTree> units = task.parse();
            task.analyze();
            CallsTest all = new CallsTest(c, Trees.instance(task));
            c.about("Rule 12: what a run makes is made in constructors");
            all.scan(units, null);
            all.lookAtAll();
        }
        c.end();
    }
}
