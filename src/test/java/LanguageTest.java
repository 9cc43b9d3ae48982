import com.sun.source.tree.AssertTree;
import com.sun.source.tree.ClassTree;
import com.sun.source.tree.CompilationUnitTree;
import com.sun.source.tree.ImportTree;
import com.sun.source.tree.LambdaExpressionTree;
import com.sun.source.tree.MemberReferenceTree;
import com.sun.source.tree.MethodInvocationTree;
import com.sun.source.tree.MethodTree;
import com.sun.source.tree.NewClassTree;
import com.sun.source.tree.SynchronizedTree;
import com.sun.source.tree.ThrowTree;
import com.sun.source.tree.Tree;
import com.sun.source.tree.TryTree;
import com.sun.source.tree.VariableTree;
import com.sun.source.util.JavacTask;
import com.sun.source.util.TreePathScanner;
import com.sun.source.util.Trees;
import java.io.IOException;
import java.nio.file.Path;
import java.util.ArrayDeque;
import java.util.Deque;
import java.util.HashMap;
import java.util.HashSet;
import java.util.List;
import java.util.Map;
import java.util.Set;
import java.util.TreeMap;
import java.util.TreeSet;
import javax.lang.model.element.Element;
import javax.lang.model.element.ElementKind;
import javax.lang.model.element.Modifier;
import javax.lang.model.element.VariableElement;
import javax.tools.JavaCompiler;
import javax.tools.StandardJavaFileManager;
import javax.tools.ToolProvider;

/** What of ../shared/LANGUAGE.md the compiler can see in the source of the class; the numbers are its rules'. */
public final class LanguageTest extends TreePathScanner<Void, Void> {
    private static final Path SOURCE = Path.of("src", "main", "java", "NarrowSolver.java");
    private static final int MOST_CLASSES = 12, MOST_FIELDS = 20, MOST_LINES = 60, MOST_PARAMETERS = 7, MOST_CALLS = 8;
    private static final Set<String> LIBRARY = Set.of("java.util.ArrayList.<init>", "java.util.ArrayList.add", "java.util.ArrayList.get",
        "java.util.ArrayList.size", "java.lang.System.arraycopy", "java.lang.Long.bitCount", "java.lang.Long.numberOfTrailingZeros",
        "java.lang.Object.<init>");

    private final Check check = new Check();
    private final Map<String, Set<String>> calls = new TreeMap<>();
    private final Map<String, Integer> depths = new HashMap<>();
    private final Deque<String> callers = new ArrayDeque<>();
    private final Trees trees;
    private final CompilationUnitTree unit;
    private int classes;

    private LanguageTest(Trees trees, CompilationUnitTree unit) {
        this.trees = trees;
        this.unit = unit;
    }

    public static void main(String[] args) throws IOException {
        JavaCompiler compiler = ToolProvider.getSystemJavaCompiler();
        try (StandardJavaFileManager files = compiler.getStandardFileManager(null, null, null)) {
            JavacTask task = (JavacTask) compiler.getTask(null, files, null, List.of("-proc:none"), null, files.getJavaFileObjects(SOURCE));
            CompilationUnitTree unit = task.parse().iterator().next();
            task.analyze();
            LanguageTest test = new LanguageTest(Trees.instance(task), unit);
            test.scan(unit, null);
            test.theWhole();
            test.check.end();
        }
    }

    private void theWhole() {
        check.due("11: at most some twelve classes", classes <= MOST_CLASSES ? 1 : 0, 1);
        check.due("the face's methods were seen", calls.containsKey("NarrowSolver.solve") ? 1 : 0, 1);
        for (String method : calls.keySet()) {
            int depth = depthOf(method, new HashSet<>());
            check.due("11: calls that stand open at once from " + method + " on: " + depth, depth <= MOST_CALLS ? 1 : 0, 1);
        }
    }

    /** How many calls stand open at once at most, the method's own and those of the library with it. */
    private int depthOf(String method, Set<String> open) {
        if (depths.containsKey(method)) {
            return depths.get(method);
        }
        check.due("8: " + method + " calls itself", open.add(method) ? 0 : 1, 0);
        int deepest = 0;
        for (String called : calls.getOrDefault(method, Set.of())) {
            deepest = Math.max(deepest, open.contains(called) ? MOST_CALLS : depthOf(called, open));
        }
        open.remove(method);
        depths.put(method, deepest + 1);
        return deepest + 1;
    }

    @Override
    public Void visitImport(ImportTree tree, Void unused) {
        check.due("4: " + tree, tree.getQualifiedIdentifier().toString().equals("java.util.ArrayList") ? 1 : 0, 1);
        return super.visitImport(tree, unused);
    }

    @Override
    public Void visitClass(ClassTree tree, Void unused) {
        classes++;
        boolean local = trees.getElement(getCurrentPath()).getEnclosingElement().getKind() == ElementKind.METHOD;
        check.due("2: local class " + tree.getSimpleName(), local ? 1 : 0, 0);
        int fields = 0;
        for (Tree member : tree.getMembers()) {
            if (member instanceof VariableTree field && !field.getModifiers().getFlags().contains(Modifier.STATIC)) {
                fields++;
            }
            check.due("5: a static initialiser in " + tree.getSimpleName(), member.getKind() == Tree.Kind.BLOCK ? 1 : 0, 0);
        }
        check.due("11: fields of " + tree.getSimpleName() + ": " + fields, fields <= MOST_FIELDS ? 1 : 0, 1);
        callers.push(trees.getElement(getCurrentPath()) + ".<init>");
        super.visitClass(tree, unused);
        callers.pop();
        return null;
    }

    @Override
    public Void visitVariable(VariableTree tree, Void unused) {
        VariableElement variable = (VariableElement) trees.getElement(getCurrentPath());
        if (variable.getModifiers().contains(Modifier.STATIC)) {
            check.due("5: static " + tree.getName() + " is a constant", variable.getConstantValue() == null ? 0 : 1, 1);
        }
        return super.visitVariable(tree, unused);
    }

    @Override
    public Void visitMethod(MethodTree tree, Void unused) {
        String name = nameOf(trees.getElement(getCurrentPath()));
        long from = trees.getSourcePositions().getStartPosition(unit, tree);
        long to = Math.max(from, trees.getSourcePositions().getEndPosition(unit, tree));
        long lines = unit.getLineMap().getLineNumber(to) - unit.getLineMap().getLineNumber(from) + 1;
        check.due("11: " + name + " has " + lines + " lines", lines <= MOST_LINES ? 1 : 0, 1);
        check.due("11: parameters of " + name, tree.getParameters().size() <= MOST_PARAMETERS ? 1 : 0, 1);
        callers.push(name);
        calls.computeIfAbsent(name, k -> new TreeSet<>());
        super.visitMethod(tree, unused);
        callers.pop();
        return null;
    }

    private static String nameOf(Element method) {
        return method.getEnclosingElement() + "." + method.getSimpleName();
    }

    /** Of the library only what the rules list, and of that only what the class has a use for. */
    private void noteCall(Element called) {
        String name = nameOf(called);
        if (!name.startsWith("NarrowSolver.")) {
            check.due("4: " + name + " is listed", LIBRARY.contains(name) ? 1 : 0, 1);
        }
        calls.computeIfAbsent(callers.peek(), k -> new TreeSet<>()).add(name);
    }

    @Override
    public Void visitMethodInvocation(MethodInvocationTree tree, Void unused) {
        noteCall(trees.getElement(getCurrentPath()));
        return super.visitMethodInvocation(tree, unused);
    }

    @Override
    public Void visitNewClass(NewClassTree tree, Void unused) {
        noteCall(trees.getElement(getCurrentPath()));
        return super.visitNewClass(tree, unused);
    }

    private void refused(int rule, Tree tree) {
        check.due(rule + ": refused: " + tree, 1, 0);
    }

    @Override
    public Void visitLambdaExpression(LambdaExpressionTree tree, Void unused) {
        refused(2, tree);
        return super.visitLambdaExpression(tree, unused);
    }

    @Override
    public Void visitMemberReference(MemberReferenceTree tree, Void unused) {
        refused(2, tree);
        return super.visitMemberReference(tree, unused);
    }

    /** The document names no exception, so none is thrown, and none is there to be caught. */
    @Override
    public Void visitThrow(ThrowTree tree, Void unused) {
        refused(6, tree);
        return super.visitThrow(tree, unused);
    }

    @Override
    public Void visitTry(TryTree tree, Void unused) {
        refused(6, tree);
        return super.visitTry(tree, unused);
    }

    @Override
    public Void visitSynchronized(SynchronizedTree tree, Void unused) {
        refused(6, tree);
        return super.visitSynchronized(tree, unused);
    }

    @Override
    public Void visitAssert(AssertTree tree, Void unused) {
        refused(6, tree);
        return super.visitAssert(tree, unused);
    }
}
