import com.sun.source.tree.AssertTree;
import com.sun.source.tree.BinaryTree;
import com.sun.source.tree.BlockTree;
import com.sun.source.tree.CatchTree;
import com.sun.source.tree.ClassTree;
import com.sun.source.tree.CompilationUnitTree;
import com.sun.source.tree.CompoundAssignmentTree;
import com.sun.source.tree.InstanceOfTree;
import com.sun.source.tree.LambdaExpressionTree;
import com.sun.source.tree.LiteralTree;
import com.sun.source.tree.MemberReferenceTree;
import com.sun.source.tree.MethodInvocationTree;
import com.sun.source.tree.MethodTree;
import com.sun.source.tree.NewArrayTree;
import com.sun.source.tree.NewClassTree;
import com.sun.source.tree.SynchronizedTree;
import com.sun.source.tree.ThrowTree;
import com.sun.source.tree.Tree;
import com.sun.source.tree.TryTree;
import com.sun.source.tree.VariableTree;
import com.sun.source.util.JavacTask;
import com.sun.source.util.TreePath;
import com.sun.source.util.TreePathScanner;
import com.sun.source.util.Trees;
import java.io.File;
import java.io.IOException;
import java.util.HashMap;
import java.util.HashSet;
import java.util.List;
import java.util.Map;
import java.util.Set;
import javax.lang.model.element.Element;
import javax.lang.model.element.ElementKind;
import javax.lang.model.element.Modifier;
import javax.tools.JavaCompiler;
import javax.tools.StandardJavaFileManager;
import javax.tools.ToolProvider;

/** The rules of LANGUAGE.md that the compiler's tree of FactFinder.java can show. */
public final class LanguageTest extends TreePathScanner<Void, Void> {
    private static final Set<String> TYPES = Set.of("void", "int", "long", "boolean", "int[]", "long[]",
            "Figure", "Figure[]", "Plan", "Drawing", "Findings", "IntList", "IntList[]");
    private static final Set<String> LIBRARY = Set.of("java.lang.Math.max", "java.lang.Integer.bitCount",
            "java.lang.Object.<init>");
    private static final Set<Tree.Kind> DIVISIONS = Set.of(Tree.Kind.DIVIDE, Tree.Kind.REMAINDER,
            Tree.Kind.DIVIDE_ASSIGNMENT, Tree.Kind.REMAINDER_ASSIGNMENT);
    private static final Set<String> DIVISORS = Set.of("P", "2147483647");
    private static final int MOST_DEEP = 8, MOST_LINES = 60, MOST_PARAMETERS = 7, MOST_CLASSES = 12,
            MOST_FIELDS = 20;

    private final Due due = new Due();
    private final Trees trees;
    private final CompilationUnitTree unit;
    private final Map<Element, Set<Element>> calls = new HashMap<>();
    private int classes;

    private LanguageTest(Trees trees, CompilationUnitTree unit) {
        this.trees = trees;
        this.unit = unit;
    }

    public static void main(String[] args) throws IOException {
        JavaCompiler compiler = ToolProvider.getSystemJavaCompiler();
        try (StandardJavaFileManager files = compiler.getStandardFileManager(null, null, null)) {
            JavacTask task = (JavacTask) compiler.getTask(null, files, null, List.of("-proc:none"), null,
                    files.getJavaFileObjects(new File(args[0])));
            CompilationUnitTree unit = task.parse().iterator().next();
            task.analyze();
            LanguageTest test = new LanguageTest(Trees.instance(task), unit);
            test.scan(unit, null);
            test.wholeFile();
            test.due.end();
        }
    }

    private void wholeFile() {
        due.isTrue("no package line, no import (4)", unit.getPackage() == null && unit.getImports().isEmpty());
        due.is("classes beside those inside (1)", 1, unit.getTypeDecls().size());
        due.isTrue(classes + " classes (11)", classes <= MOST_CLASSES);
        for (Element method : calls.keySet()) {
            if (method.getModifiers().contains(Modifier.PUBLIC)) {
                int deep = depth(method, 1);
                due.isTrue(method + " goes " + deep + " deep (8, 11)", deep <= MOST_DEEP);
            }
        }
    }

    /** The calls that stand open at most; more than there are methods only if one calls itself. */
    private int depth(Element method, int above) {
        int most = above;
        if (above <= calls.size()) {
            for (Element called : calls.getOrDefault(method, Set.of())) {
                most = Math.max(most, depth(called, above + 1));
            }
        }
        return most;
    }

    private Element element() {
        return trees.getElement(getCurrentPath());
    }

    private String at(Tree tree) {
        return "line " + unit.getLineMap().getLineNumber(trees.getSourcePositions().getStartPosition(unit, tree));
    }

    private void forbid(String what, Tree tree) {
        due.isTrue(at(tree) + " has no " + what, false);
    }

    private Element methodAround() {
        TreePath path = getCurrentPath();
        while (path != null && !(path.getLeaf() instanceof MethodTree)) {
            path = path.getParentPath();
        }
        return path == null ? null : trees.getElement(path);
    }

    @Override
    public Void visitClass(ClassTree tree, Void none) {
        classes++;
        Element self = element();
        boolean inside = self.getEnclosingElement().getKind() == ElementKind.CLASS;
        due.isTrue(self + " is static, if inside (2)", !inside || self.getModifiers().contains(Modifier.STATIC));
        int fields = 0;
        for (Tree member : tree.getMembers()) {
            if (member instanceof VariableTree field) {
                fields += field.getModifiers().getFlags().contains(Modifier.STATIC) ? 0 : 1;
            }
            due.isTrue(at(member) + " is no initialiser block (5)", !(member instanceof BlockTree));
        }
        due.isTrue(self + " has " + fields + " fields (11)", fields <= MOST_FIELDS);
        return super.visitClass(tree, none);
    }

    @Override
    public Void visitVariable(VariableTree tree, Void none) {
        Set<Modifier> flags = tree.getModifiers().getFlags();
        String type = String.valueOf(tree.getType());
        due.isTrue(at(tree) + ": the type " + type + " (3)", TYPES.contains(type));
        if (flags.contains(Modifier.STATIC)) {
            boolean simple = Set.of("int", "long", "boolean", "int[]", "long[]").contains(type);
            boolean made = tree.getInitializer() instanceof NewArrayTree array && array.getInitializers() != null;
            due.isTrue(at(tree) + " is a constant (5)", flags.contains(Modifier.FINAL) && simple
                    && (made || !type.endsWith("]")));
        }
        return super.visitVariable(tree, none);
    }

    @Override
    public Void visitMethod(MethodTree tree, Void none) {
        calls.computeIfAbsent(element(), key -> new HashSet<>());
        String type = tree.getReturnType() == null ? "void" : tree.getReturnType().toString();
        due.isTrue(tree.getName() + " answers " + type + " (3)", TYPES.contains(type));
        due.isTrue(tree.getName() + " takes seven (11)", tree.getParameters().size() <= MOST_PARAMETERS);
        due.isTrue(tree.getName() + " throws nothing (6)", tree.getThrows().isEmpty());
        long end = trees.getSourcePositions().getEndPosition(unit, tree);
        if (end >= 0) {
            long lines = unit.getLineMap().getLineNumber(end)
                    - unit.getLineMap().getLineNumber(trees.getSourcePositions().getStartPosition(unit, tree)) + 1;
            due.isTrue(tree.getName() + " has " + lines + " lines (11)", lines <= MOST_LINES);
        }
        return super.visitMethod(tree, none);
    }

    private void called(Element target, Tree tree) {
        Element owner = target.getEnclosingElement();
        boolean own = owner.toString().startsWith("FactFinder");
        String name = owner + "." + target.getSimpleName();
        due.isTrue(at(tree) + " calls " + name + " (4)", own || LIBRARY.contains(name));
        Element caller = methodAround();
        if (own && caller != null) {
            calls.computeIfAbsent(caller, key -> new HashSet<>()).add(target);
        }
    }

    @Override
    public Void visitMethodInvocation(MethodInvocationTree tree, Void none) {
        called(element(), tree);
        return super.visitMethodInvocation(tree, none);
    }

    /** Whatever is made is made with the object: in fields' initialisers and constructors. */
    private void madeByConstructor(Tree tree) {
        Element around = methodAround();
        due.isTrue(at(tree) + " makes nothing in a call (12)",
                around == null || around.getKind() == ElementKind.CONSTRUCTOR);
    }

    @Override
    public Void visitNewClass(NewClassTree tree, Void none) {
        called(element(), tree);
        madeByConstructor(tree);
        due.isTrue(at(tree) + " makes no anonymous class (2)", tree.getClassBody() == null);
        return super.visitNewClass(tree, none);
    }

    @Override
    public Void visitNewArray(NewArrayTree tree, Void none) {
        madeByConstructor(tree);
        due.isTrue(at(tree) + " makes an array of one dimension (3)", tree.getDimensions().size() <= 1);
        return super.visitNewArray(tree, none);
    }

    private void divides(Tree tree, Tree by) {
        if (DIVISIONS.contains(tree.getKind())) {
            due.isTrue(at(tree) + " divides by a constant (7)", DIVISORS.contains(by.toString()));
        }
    }

    @Override
    public Void visitBinary(BinaryTree tree, Void none) {
        divides(tree, tree.getRightOperand());
        return super.visitBinary(tree, none);
    }

    @Override
    public Void visitCompoundAssignment(CompoundAssignmentTree tree, Void none) {
        divides(tree, tree.getExpression());
        return super.visitCompoundAssignment(tree, none);
    }

    @Override
    public Void visitLiteral(LiteralTree tree, Void none) {
        if (tree.getKind() == Tree.Kind.STRING_LITERAL) {
            forbid("text: there is no need of it (10)", tree);
        }
        return super.visitLiteral(tree, none);
    }

    @Override
    public Void visitThrow(ThrowTree tree, Void none) {
        forbid("throw (6)", tree);
        return super.visitThrow(tree, none);
    }

    @Override
    public Void visitTry(TryTree tree, Void none) {
        forbid("try (6)", tree);
        return super.visitTry(tree, none);
    }

    @Override
    public Void visitCatch(CatchTree tree, Void none) {
        forbid("catch (6)", tree);
        return super.visitCatch(tree, none);
    }

    @Override
    public Void visitSynchronized(SynchronizedTree tree, Void none) {
        forbid("synchronized (6)", tree);
        return super.visitSynchronized(tree, none);
    }

    @Override
    public Void visitAssert(AssertTree tree, Void none) {
        forbid("assert (6)", tree);
        return super.visitAssert(tree, none);
    }

    @Override
    public Void visitInstanceOf(InstanceOfTree tree, Void none) {
        forbid("instanceof: there is no need of it (6)", tree);
        return super.visitInstanceOf(tree, none);
    }

    @Override
    public Void visitLambdaExpression(LambdaExpressionTree tree, Void none) {
        forbid("lambda (2)", tree);
        return super.visitLambdaExpression(tree, none);
    }

    @Override
    public Void visitMemberReference(MemberReferenceTree tree, Void none) {
        forbid("method reference (2)", tree);
        return super.visitMemberReference(tree, none);
    }
}
