import com.sun.source.tree.ArrayAccessTree;
import com.sun.source.tree.CatchTree;
import com.sun.source.tree.ClassTree;
import com.sun.source.tree.CompilationUnitTree;
import com.sun.source.tree.MethodInvocationTree;
import com.sun.source.tree.MethodTree;
import com.sun.source.tree.NewArrayTree;
import com.sun.source.tree.NewClassTree;
import com.sun.source.tree.Tree;
import com.sun.source.tree.TypeCastTree;
import com.sun.source.util.JavacTask;
import com.sun.source.util.TreePathScanner;
import com.sun.source.util.Trees;
import java.io.IOException;
import java.nio.file.Path;
import java.util.HashMap;
import java.util.HashSet;
import java.util.LinkedHashSet;
import java.util.List;
import java.util.Map;
import java.util.Set;
import javax.lang.model.element.Element;
import javax.lang.model.element.ElementKind;
import javax.lang.model.element.Modifier;
import javax.tools.JavaCompiler;
import javax.tools.StandardJavaFileManager;
import javax.tools.ToolProvider;

/** Rules 4, 6, 7, 8, 11 and 12 of LANGUAGE.md: which methods call which, what of the library they use, and where arrays are used. */
public final class CallsTest extends TreePathScanner<Void, Element> {
    private static final Path SOURCE = Path.of("src/main/java/Marktongue.java");
    private static final int DEEPEST = 8;
    private static final Set<String> LIBRARY = Set.of("java.lang.Math.max(int,int)", "java.lang.Object.Object()");
    /** Where an index is used, it has been looked at in the same method. */
    private static final Set<String> INDEXING = Set.of("at", "set", "add", "find", "isLeftOut", "leaveOut");

    private final Trees trees;
    private final Map<Element, Set<Element>> calls = new HashMap<>();
    private final Set<Element> methods = new LinkedHashSet<>();

    private CallsTest(Trees trees) {
        this.trees = trees;
    }

    public static void main(String[] args) throws IOException {
        JavaCompiler compiler = ToolProvider.getSystemJavaCompiler();
        try (StandardJavaFileManager files = compiler.getStandardFileManager(null, null, null)) {
            JavacTask task = (JavacTask) compiler.getTask(null, files, null, List.of("-proc:none"), null, files.getJavaFileObjects(SOURCE));
            CallsTest test = new CallsTest(Trees.instance(task));
            for (CompilationUnitTree unit : task.parse()) {
                task.analyze();
                test.scan(unit, null);
            }
            test.depths();
        }
        Due.finish("CallsTest");
    }

    private void depths() {
        Due.same("methods that were looked at", methods.size() > 100, true);
        int deepest = 0;
        for (Element method : methods) {
            if (method.getModifiers().contains(Modifier.PUBLIC)) {
                deepest = Math.max(deepest, depth(method, new HashSet<>()));
            }
        }
        Due.same("11: calls go " + deepest + " deep", deepest <= DEEPEST, true);
    }

    /** How many calls are open at once from that one on, itself among them. */
    private int depth(Element method, Set<Element> open) {
        Due.same("8: " + method + " calls itself", open.add(method), true);
        int deepest = 0;
        for (Element called : open.size() > 2 * DEEPEST ? Set.<Element>of() : calls.getOrDefault(method, Set.of())) {
            deepest = Math.max(deepest, depth(called, open));
        }
        open.remove(method);
        return deepest + 1;
    }

    @Override
    public Void visitClass(ClassTree node, Element caller) {
        return super.visitClass(node, trees.getElement(getCurrentPath()));
    }

    @Override
    public Void visitMethod(MethodTree node, Element caller) {
        Element method = trees.getElement(getCurrentPath());
        methods.add(method);
        return super.visitMethod(node, method);
    }

    @Override
    public Void visitMethodInvocation(MethodInvocationTree node, Element caller) {
        call(caller, trees.getElement(getCurrentPath()));
        return super.visitMethodInvocation(node, caller);
    }

    @Override
    public Void visitNewClass(NewClassTree node, Element caller) {
        Element made = trees.getElement(getCurrentPath());
        call(caller, made);
        boolean isThrown = getCurrentPath().getParentPath().getLeaf().getKind() == Tree.Kind.THROW;
        boolean isOfField = caller != null && caller.getKind().isClass();
        boolean isOfConstructor = caller != null && caller.getKind() == ElementKind.CONSTRUCTOR;
        Due.same("12: " + node + " is made in " + caller, isThrown || isOfField || isOfConstructor, true);
        return super.visitNewClass(node, caller);
    }

    private void call(Element caller, Element called) {
        String owner = called.getEnclosingElement().toString();
        if (owner.startsWith("Marktongue")) {
            calls.computeIfAbsent(caller, one -> new LinkedHashSet<>()).add(called);
        } else if (!owner.endsWith("Exception")) {
            Due.same("4: " + owner + "." + called, LIBRARY.contains(owner + "." + called), true);
        }
    }

    @Override
    public Void visitNewArray(NewArrayTree node, Element caller) {
        boolean isMadeOnce = caller.getKind().isClass() || caller.getKind() == ElementKind.CONSTRUCTOR;
        Due.same("12: " + node + " is made in " + caller, isMadeOnce, true);
        return super.visitNewArray(node, caller);
    }

    @Override
    public Void visitArrayAccess(ArrayAccessTree node, Element caller) {
        Due.same("7: " + node + " in " + caller, INDEXING.contains(caller.getSimpleName().toString()), true);
        return super.visitArrayAccess(node, caller);
    }

    @Override
    public Void visitCatch(CatchTree node, Element caller) {
        Due.same("6: " + node + " in " + caller, "a catch", "none");
        return super.visitCatch(node, caller);
    }

    @Override
    public Void visitTypeCast(TypeCastTree node, Element caller) {
        Due.same("7: " + node + " in " + caller, "a cast", "none");
        return super.visitTypeCast(node, caller);
    }
}
