import com.sun.source.tree.AssertTree;
import com.sun.source.tree.BinaryTree;
import com.sun.source.tree.BlockTree;
import com.sun.source.tree.ClassTree;
import com.sun.source.tree.CompilationUnitTree;
import com.sun.source.tree.CompoundAssignmentTree;
import com.sun.source.tree.DoWhileLoopTree;
import com.sun.source.tree.ExpressionTree;
import com.sun.source.tree.ForLoopTree;
import com.sun.source.tree.LambdaExpressionTree;
import com.sun.source.tree.LiteralTree;
import com.sun.source.tree.MemberReferenceTree;
import com.sun.source.tree.MethodInvocationTree;
import com.sun.source.tree.MethodTree;
import com.sun.source.tree.NewArrayTree;
import com.sun.source.tree.NewClassTree;
import com.sun.source.tree.SynchronizedTree;
import com.sun.source.tree.ThrowTree;
import com.sun.source.tree.Tree;
import com.sun.source.tree.TryTree;
import com.sun.source.tree.TypeCastTree;
import com.sun.source.tree.VariableTree;
import com.sun.source.tree.WhileLoopTree;
import com.sun.source.util.JavacTask;
import com.sun.source.util.TreePath;
import com.sun.source.util.TreePathScanner;
import com.sun.source.util.Trees;
import java.io.IOException;
import java.nio.file.Path;
import java.util.ArrayList;
import java.util.LinkedHashMap;
import java.util.LinkedHashSet;
import java.util.List;
import java.util.Map;
import java.util.Set;
import javax.lang.model.element.Element;
import javax.lang.model.element.Modifier;
import javax.lang.model.type.TypeKind;
import javax.lang.model.type.TypeMirror;
import javax.tools.JavaCompiler;
import javax.tools.StandardJavaFileManager;
import javax.tools.ToolProvider;

/**
 * Goes through the source of the class as the compiler reads it, and tells what ../shared/LANGUAGE.md does not leave.
 * The class uses less than the rules leave (no lists, no texts but constants, no doubles): so does this.
 */
final class SourceRules extends TreePathScanner<Void, Void> {
    private static final Set<String> LIBRARY = Set.of("java.util.Arrays.fill", "java.lang.System.arraycopy",
            "java.lang.Math.min", "java.lang.Math.max", "java.lang.String.length", "java.lang.String.charAt");
    private static final Set<String> TYPES = Set.of("int", "boolean", "int[]", "java.lang.String");
    private static final int MOST_LINES = 60;
    private static final int MOST_PARAMETERS = 7;
    private static final int MOST_DEEP = 8;

    private final Trees trees;
    private final CompilationUnitTree unit;
    private final List<String> broken = new ArrayList<>();
    private final Map<Element, Set<Element>> calls = new LinkedHashMap<>();

    private SourceRules(Trees trees, CompilationUnitTree unit) {
        this.trees = trees;
        this.unit = unit;
    }

    /** The rules that a source file breaks, each with its place. */
    static List<String> brokenIn(Path file) throws IOException {
        JavaCompiler compiler = ToolProvider.getSystemJavaCompiler();
        try (StandardJavaFileManager files = compiler.getStandardFileManager(null, null, null)) {
            JavacTask task = (JavacTask) compiler.getTask(null, files, null, List.of("-proc:none"), null,
                    files.getJavaFileObjects(file));
            CompilationUnitTree unit = task.parse().iterator().next();
            task.analyze();
            SourceRules rules = new SourceRules(Trees.instance(task), unit);
            rules.scan(new TreePath(unit), null);
            rules.depths();
            return rules.broken;
        }
    }

    private void rule(int number, boolean holds, Tree at, String what) {
        if (!holds) {
            broken.add("rule " + number + ", line " + line(at, false) + ": " + what);
        }
    }

    private long line(Tree tree, boolean isEnd) {
        var places = trees.getSourcePositions();
        long place = isEnd ? places.getEndPosition(unit, tree) : places.getStartPosition(unit, tree);
        return unit.getLineMap().getLineNumber(place);
    }

    private TypeMirror typeOf(Tree tree) {
        return trees.getTypeMirror(new TreePath(getCurrentPath(), tree));
    }

    private boolean isText(Tree tree) {
        return typeOf(tree).toString().equals("java.lang.String");
    }

    private Element method() {
        for (TreePath p = getCurrentPath(); p != null; p = p.getParentPath()) {
            if (p.getLeaf() instanceof MethodTree) {
                return trees.getElement(p);
            }
        }
        return null;
    }

    private static boolean isOwn(Element e) {
        return e.toString().equals("NameBook") || e.getEnclosingElement() != null && isOwn(e.getEnclosingElement());
    }

    @Override
    public Void visitClass(ClassTree tree, Void v) {
        boolean isInside = getCurrentPath().getParentPath().getLeaf() instanceof ClassTree;
        boolean isFace = getCurrentPath().getParentPath().getLeaf() instanceof CompilationUnitTree;
        rule(2, isInside || isFace, tree, "a local or anonymous class");
        rule(2, isFace || tree.getModifiers().getFlags().contains(Modifier.STATIC), tree, "an inner class that isn't static");
        for (Tree member : tree.getMembers()) {
            rule(5, !(member instanceof BlockTree), member, "an initialiser block");
        }
        return super.visitClass(tree, v);
    }

    @Override
    public Void visitMethod(MethodTree tree, Void v) {
        rule(11, tree.getParameters().size() <= MOST_PARAMETERS, tree, tree.getName() + " has too many parameters");
        rule(11, line(tree, true) - line(tree, false) < MOST_LINES, tree, tree.getName() + " is too long");
        rule(6, tree.getThrows().isEmpty(), tree, tree.getName() + " throws");
        calls.putIfAbsent(trees.getElement(getCurrentPath()), new LinkedHashSet<>());
        return super.visitMethod(tree, v);
    }

    @Override
    public Void visitVariable(VariableTree tree, Void v) {
        TypeMirror type = typeOf(tree.getType());
        String name = type.toString();
        rule(3, TYPES.contains(name) || name.startsWith("NameBook."), tree, "a variable of type " + name);
        Element e = trees.getElement(getCurrentPath());
        if (e.getKind().isField() && e.getModifiers().contains(Modifier.STATIC)) {
            rule(5, e.getModifiers().contains(Modifier.FINAL), tree, "a static field that isn't final");
            rule(5, !name.startsWith("NameBook."), tree, "a static field of type " + name);
        }
        return super.visitVariable(tree, v);
    }

    @Override
    public Void visitMethodInvocation(MethodInvocationTree tree, Void v) {
        Element called = trees.getElement(getCurrentPath());
        if (isOwn(called)) {
            Element caller = method();
            rule(12, caller != null, tree, "a call ahead of the constructor");
            if (caller != null) {
                calls.computeIfAbsent(caller, c -> new LinkedHashSet<>()).add(called);
            }
        } else if (!called.getSimpleName().contentEquals("<init>")) {
            String name = called.getEnclosingElement() + "." + called.getSimpleName();
            rule(4, LIBRARY.contains(name), tree, "a call of " + name);
        }
        return super.visitMethodInvocation(tree, v);
    }

    /** Only fields and constructors make something, so no call makes anything. */
    private void making(Tree tree) {
        Element in = method();
        rule(12, in == null || in.getSimpleName().contentEquals("<init>"), tree, in + " makes an object or an array");
    }

    @Override
    public Void visitNewClass(NewClassTree tree, Void v) {
        making(tree);
        rule(4, isOwn(trees.getElement(getCurrentPath())), tree, "an object of the library");
        return super.visitNewClass(tree, v);
    }

    @Override
    public Void visitNewArray(NewArrayTree tree, Void v) {
        making(tree);
        rule(3, tree.getDimensions().size() <= 1, tree, "an array of two dimensions");
        return super.visitNewArray(tree, v);
    }

    @Override
    public Void visitBinary(BinaryTree tree, Void v) {
        boolean isText = isText(tree.getLeftOperand()) || isText(tree.getRightOperand());
        rule(10, !isText, tree, "texts joined or compared by a sign");
        if (tree.getKind() == Tree.Kind.DIVIDE || tree.getKind() == Tree.Kind.REMAINDER) {
            rule(7, isSafeDivisor(tree.getRightOperand()), tree, "a divisor that isn't a constant above 0");
        }
        return super.visitBinary(tree, v);
    }

    @Override
    public Void visitCompoundAssignment(CompoundAssignmentTree tree, Void v) {
        boolean divides = tree.getKind() == Tree.Kind.DIVIDE_ASSIGNMENT || tree.getKind() == Tree.Kind.REMAINDER_ASSIGNMENT;
        rule(7, !divides || isSafeDivisor(tree.getExpression()), tree, "a divisor that isn't a constant above 0");
        rule(10, !isText(tree.getVariable()), tree, "a text joined by a sign");
        return super.visitCompoundAssignment(tree, v);
    }

    private boolean isSafeDivisor(ExpressionTree tree) {
        if (tree instanceof LiteralTree literal) {
            return literal.getValue() instanceof Integer n && n > 0;
        }
        Element e = trees.getElement(new TreePath(getCurrentPath(), tree));
        return e instanceof javax.lang.model.element.VariableElement field && field.getConstantValue() instanceof Integer n
                && n > 0;
    }

    @Override
    public Void visitTypeCast(TypeCastTree tree, Void v) {
        rule(6, typeOf(tree.getType()).getKind().isPrimitive(), tree, "a cast of an object");
        return super.visitTypeCast(tree, v);
    }

    private void loop(Tree tree, ExpressionTree condition) {
        boolean isSeen = condition != null && typeOf(condition).getKind() == TypeKind.BOOLEAN;
        rule(9, isSeen && condition.toString().matches(".*[<>=].*"), tree, "a loop whose end can't be seen: " + condition);
    }

    @Override
    public Void visitForLoop(ForLoopTree tree, Void v) {
        loop(tree, tree.getCondition());
        rule(9, tree.getUpdate().size() == 1, tree, "a loop without a step");
        return super.visitForLoop(tree, v);
    }

    @Override
    public Void visitWhileLoop(WhileLoopTree tree, Void v) {
        loop(tree, tree.getCondition());
        return super.visitWhileLoop(tree, v);
    }

    @Override
    public Void visitDoWhileLoop(DoWhileLoopTree tree, Void v) {
        loop(tree, tree.getCondition());
        return super.visitDoWhileLoop(tree, v);
    }

    @Override
    public Void visitLambdaExpression(LambdaExpressionTree tree, Void v) {
        rule(2, false, tree, "a lambda");
        return super.visitLambdaExpression(tree, v);
    }

    @Override
    public Void visitMemberReference(MemberReferenceTree tree, Void v) {
        rule(2, false, tree, "a method reference");
        return super.visitMemberReference(tree, v);
    }

    @Override
    public Void visitTry(TryTree tree, Void v) {
        rule(6, false, tree, "try");
        return super.visitTry(tree, v);
    }

    @Override
    public Void visitThrow(ThrowTree tree, Void v) {
        rule(6, false, tree, "throw");
        return super.visitThrow(tree, v);
    }

    @Override
    public Void visitSynchronized(SynchronizedTree tree, Void v) {
        rule(6, false, tree, "synchronized");
        return super.visitSynchronized(tree, v);
    }

    @Override
    public Void visitAssert(AssertTree tree, Void v) {
        rule(6, false, tree, "assert");
        return super.visitAssert(tree, v);
    }

    /** Calls go at most eight deep, but for a private or inside method that calls itself with its depth as an argument. */
    private void depths() {
        for (Element method : calls.keySet()) {
            depth(method, new ArrayList<>());
        }
    }

    private void depth(Element method, List<Element> open) {
        if (open.contains(method)) {
            boolean isItself = open.get(open.size() - 1).equals(method);
            boolean isGuarded = method.toString().matches("weighFrom\\(.*");
            if (!isItself || !isGuarded) {
                broken.add("rule 8: " + open + " calls " + method);
            }
            return;
        }
        open.add(method);
        if (open.size() > MOST_DEEP) {
            broken.add("rule 11: calls too deep: " + open);
        } else {
            calls.getOrDefault(method, Set.of()).forEach(called -> depth(called, open));
        }
        open.remove(open.size() - 1);
    }
}
