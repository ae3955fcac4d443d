import com.sun.source.tree.BinaryTree;
import com.sun.source.tree.BlockTree;
import com.sun.source.tree.ClassTree;
import com.sun.source.tree.CompilationUnitTree;
import com.sun.source.tree.ExpressionTree;
import com.sun.source.tree.ForLoopTree;
import com.sun.source.tree.IdentifierTree;
import com.sun.source.tree.ImportTree;
import com.sun.source.tree.LiteralTree;
import com.sun.source.tree.MethodInvocationTree;
import com.sun.source.tree.MethodTree;
import com.sun.source.tree.NewArrayTree;
import com.sun.source.tree.NewClassTree;
import com.sun.source.tree.ThrowTree;
import com.sun.source.tree.Tree;
import com.sun.source.tree.TypeCastTree;
import com.sun.source.tree.VariableTree;
import com.sun.source.tree.WhileLoopTree;
import com.sun.source.util.JavacTask;
import com.sun.source.util.TreePath;
import com.sun.source.util.TreePathScanner;
import com.sun.source.util.Trees;
import java.io.IOException;
import java.nio.file.Path;
import java.util.HashMap;
import java.util.HashSet;
import java.util.List;
import java.util.Map;
import java.util.Set;
import java.util.TreeSet;
import javax.lang.model.element.Element;
import javax.lang.model.element.ExecutableElement;
import javax.lang.model.element.Modifier;
import javax.lang.model.element.TypeElement;
import javax.lang.model.element.VariableElement;
import javax.lang.model.type.TypeKind;
import javax.lang.model.type.TypeMirror;
import javax.tools.JavaCompiler;
import javax.tools.StandardJavaFileManager;
import javax.tools.ToolProvider;

/**
 * The rules of ../shared/LANGUAGE.md, each told by its number, as the compiler reads them in the class. The class does
 * without much that they allow (try, casts of objects, texts, lists, recursion); the test holds it to what it uses.
 */
public final class LanguageTest extends TreePathScanner<Void, Void> {
    private static final Path SOURCE = Path.of("src/main/java/GluedWall.java");
    private static final int CLASSES_MOST = 12;
    private static final int FIELDS_MOST = 20;
    private static final int LINES_MOST = 60;
    private static final int PARAMETERS_MOST = 7;
    private static final int DEPTH_MOST = 8;
    private static final Set<String> LIBRARY = Set.of("java.lang.System.arraycopy", "java.lang.Math.min",
            "java.lang.Math.max", "java.lang.Math.abs", "java.lang.Object.<init>");
    private static final Set<String> EXCEPTIONS = Set.of("IllegalStateException", "IllegalArgumentException",
            "IndexOutOfBoundsException", "ArithmeticException", "UnsupportedOperationException", "NoSuchElementException",
            "RuntimeException");

    /** What the class does without, by the rule that tells of it. */
    private static final Map<Tree.Kind, Integer> WITHOUT = Map.of(Tree.Kind.TRY, 6, Tree.Kind.SYNCHRONIZED, 6,
            Tree.Kind.ASSERT, 6, Tree.Kind.INSTANCE_OF, 6, Tree.Kind.LAMBDA_EXPRESSION, 2, Tree.Kind.MEMBER_REFERENCE, 2);

    private final Check check = new Check();
    private final Trees trees;
    private final CompilationUnitTree unit;
    private final Set<String> face = new HashSet<>();
    private final Map<ExecutableElement, Set<ExecutableElement>> calls = new HashMap<>();
    private final Map<ExecutableElement, Set<String>> thrown = new HashMap<>();
    private int classes = 0;

    private LanguageTest(JavacTask task, CompilationUnitTree unit) {
        this.trees = Trees.instance(task);
        this.unit = unit;
    }

    public static void main(String[] args) throws IOException {
        JavaCompiler compiler = ToolProvider.getSystemJavaCompiler();
        try (StandardJavaFileManager files = compiler.getStandardFileManager(null, null, null)) {
            JavacTask task = (JavacTask) compiler.getTask(null, files, null, List.of("-proc:none"), null,
                    files.getJavaFileObjects(SOURCE));
            CompilationUnitTree unit = task.parse().iterator().next();
            task.analyze();
            LanguageTest test = new LanguageTest(task, unit);
            test.faceOf((ClassTree) unit.getTypeDecls().get(0));
            test.scan(unit, null);
            test.whole();
            test.check.end();
        }
    }

    private void faceOf(ClassTree top) {
        for (Tree member : top.getMembers()) {
            if (member instanceof MethodTree method && method.getModifiers().getFlags().contains(Modifier.PUBLIC)) {
                face.add(method.getName().toString());
            }
        }
    }

    /** What is known only when all has been read. */
    private void whole() {
        check.same("rule 1: one class in the file", 1, unit.getTypeDecls().size());
        check.same("rule 1: no package", null, unit.getPackageName());
        check.same("rule 11: classes", true, classes <= CLASSES_MOST);
        for (ExecutableElement method : calls.keySet()) {
            int depth = depthOf(method, new HashSet<>());
            check.same("rules 8 and 11: " + method + " calls at most eight deep, and not itself, but " + depth, true,
                    depth <= DEPTH_MOST);
            if (method.getModifiers().contains(Modifier.PUBLIC)) {
                Set<String> told = new TreeSet<>();
                method.getThrownTypes().forEach(type -> told.add(simple(type)));
                check.same("rule 6: what " + method + " throws", told, thrown.getOrDefault(method, new TreeSet<>()));
            }
        }
    }

    private int depthOf(ExecutableElement method, Set<ExecutableElement> open) {
        if (!open.add(method)) {
            return DEPTH_MOST + 1;
        }
        int deepest = 0;
        for (ExecutableElement called : calls.getOrDefault(method, Set.of())) {
            deepest = Math.max(deepest, depthOf(called, open));
        }
        open.remove(method);
        return deepest + 1;
    }

    @Override
    public Void scan(Tree node, Void none) {
        if (node != null && WITHOUT.containsKey(node.getKind())) {
            rule(WITHOUT.get(node.getKind()), node, false);
        }
        return super.scan(node, none);
    }

    @Override
    public Void visitImport(ImportTree node, Void none) {
        check.same("rule 4: import", "java.util.NoSuchElementException", node.getQualifiedIdentifier().toString());
        return super.visitImport(node, none);
    }

    @Override
    public Void visitClass(ClassTree node, Void none) {
        classes++;
        Set<Modifier> flags = node.getModifiers().getFlags();
        boolean isTop = getCurrentPath().getParentPath().getLeaf() == unit;
        rule(1, node, isTop ? flags.equals(Set.of(Modifier.PUBLIC, Modifier.FINAL))
                : flags.contains(Modifier.STATIC) && !flags.contains(Modifier.PUBLIC)
                        && !flags.contains(Modifier.PROTECTED));
        rule(2, node, getCurrentPath().getParentPath().getLeaf() instanceof ClassTree || isTop);
        int fields = 0;
        for (Tree member : node.getMembers()) {
            if (member instanceof VariableTree field) {
                Set<Modifier> its = field.getModifiers().getFlags();
                fields += its.contains(Modifier.STATIC) ? 0 : 1;
                rule(1, field, !isTop || its.contains(Modifier.PRIVATE));
            }
        }
        rule(11, node, fields <= FIELDS_MOST);
        return super.visitClass(node, none);
    }

    @Override
    public Void visitMethod(MethodTree node, Void none) {
        ExecutableElement method = (ExecutableElement) element(getCurrentPath());
        calls.computeIfAbsent(method, key -> new HashSet<>());
        Set<Modifier> flags = node.getModifiers().getFlags();
        boolean isOfTop = ofTop(method);
        rule(1, node, !isOfTop || flags.contains(Modifier.PUBLIC) || flags.contains(Modifier.PRIVATE));
        rule(1, node, node.getReturnType() == null || flags.contains(Modifier.PUBLIC)
                || !face.contains(node.getName().toString()));
        rule(3, node, node.getReturnType() == null || isPlain(method.getReturnType()));
        rule(11, node, node.getParameters().size() <= PARAMETERS_MOST);
        rule(11, node, lastLine(node) - line(node) < LINES_MOST);
        return super.visitMethod(node, none);
    }

    @Override
    public Void visitVariable(VariableTree node, Void none) {
        VariableElement variable = (VariableElement) element(getCurrentPath());
        rule(3, node, isPlain(variable.asType()));
        if (variable.getModifiers().contains(Modifier.STATIC)) {
            rule(5, node, variable.getModifiers().contains(Modifier.FINAL) && variable.getConstantValue() != null);
        }
        return super.visitVariable(node, none);
    }

    @Override
    public Void visitBlock(BlockTree node, Void none) {
        rule(5, node, !node.isStatic());
        return super.visitBlock(node, none);
    }

    @Override
    public Void visitMethodInvocation(MethodInvocationTree node, Void none) {
        ExecutableElement called = (ExecutableElement) element(getCurrentPath());
        if (isOwn(called)) {
            note(called);
        } else {
            rule(4, node, LIBRARY.contains(called.getEnclosingElement() + "." + called.getSimpleName()));
        }
        return super.visitMethodInvocation(node, none);
    }

    @Override
    public Void visitNewClass(NewClassTree node, Void none) {
        ExecutableElement made = (ExecutableElement) element(getCurrentPath());
        boolean isThrown = getCurrentPath().getParentPath().getLeaf() instanceof ThrowTree;
        rule(12, node, isThrown || isMadeAtFirst());
        rule(2, node, node.getClassBody() == null);
        if (isOwn(made)) {
            note(made);
        }
        return super.visitNewClass(node, none);
    }

    @Override
    public Void visitNewArray(NewArrayTree node, Void none) {
        rule(12, node, isMadeAtFirst());
        for (ExpressionTree length : node.getDimensions()) {
            rule(7, node, isConstant(new TreePath(getCurrentPath(), length)));
        }
        return super.visitNewArray(node, none);
    }

    @Override
    public Void visitThrow(ThrowTree node, Void none) {
        ExecutableElement method = method();
        rule(6, node, method != null && method.getModifiers().contains(Modifier.PUBLIC)
                && !method.getSimpleName().contentEquals("<init>"));
        if (node.getExpression() instanceof NewClassTree made) {
            List<? extends ExpressionTree> words = made.getArguments();
            rule(6, node, words.isEmpty() || words.size() == 1 && words.get(0) instanceof LiteralTree);
            String name = made.getIdentifier().toString();
            rule(6, node, EXCEPTIONS.contains(name));
            thrown.computeIfAbsent(method, key -> new TreeSet<>()).add(name);
        } else {
            rule(6, node, false);
        }
        return super.visitThrow(node, none);
    }

    /** A whole number's divisor is a constant; the mean and the share look at theirs before. */
    @Override
    public Void visitBinary(BinaryTree node, Void none) {
        TypeMirror type = type(getCurrentPath());
        boolean isDivision = node.getKind() == Tree.Kind.DIVIDE || node.getKind() == Tree.Kind.REMAINDER;
        if (isDivision && type.getKind() != TypeKind.DOUBLE && type.getKind() != TypeKind.FLOAT) {
            rule(7, node, isConstant(new TreePath(getCurrentPath(), node.getRightOperand())));
        }
        rule(10, node, type.getKind().isPrimitive());
        return super.visitBinary(node, none);
    }

    @Override
    public Void visitTypeCast(TypeCastTree node, Void none) {
        rule(6, node, type(getCurrentPath()).getKind().isPrimitive());
        return super.visitTypeCast(node, none);
    }

    @Override
    public Void visitLiteral(LiteralTree node, Void none) {
        rule(4, node, String.valueOf(node.getValue()).matches("[\\x01-\\x7f]*"));
        return super.visitLiteral(node, none);
    }

    @Override
    public Void visitForLoop(ForLoopTree node, Void none) {
        rule(9, node, node.getCondition() != null && hasBound(node.getCondition()));
        return super.visitForLoop(node, none);
    }

    @Override
    public Void visitWhileLoop(WhileLoopTree node, Void none) {
        rule(9, node, hasBound(node.getCondition()));
        return super.visitWhileLoop(node, none);
    }

    private void rule(int number, Tree node, boolean isKept) {
        String words = node.toString().strip().lines().findFirst().orElse("");
        check.same("rule " + number + ", line " + line(node) + ", " + words, true, isKept);
    }

    private long line(Tree node) {
        return unit.getLineMap().getLineNumber(trees.getSourcePositions().getStartPosition(unit, node));
    }

    private long lastLine(Tree node) {
        return unit.getLineMap().getLineNumber(Math.max(0, trees.getSourcePositions().getEndPosition(unit, node)));
    }

    private Element element(TreePath path) {
        return trees.getElement(path);
    }

    private TypeMirror type(TreePath path) {
        return trees.getTypeMirror(path);
    }

    /** The method or constructor in which the walk is, null in a field. */
    private ExecutableElement method() {
        for (TreePath path = getCurrentPath(); path != null; path = path.getParentPath()) {
            if (path.getLeaf() instanceof MethodTree) {
                return (ExecutableElement) element(path);
            }
        }
        return null;
    }

    /** What a field makes is made by the constructors of its class. */
    private void note(ExecutableElement called) {
        ExecutableElement from = method();
        if (from != null) {
            calls.computeIfAbsent(from, key -> new HashSet<>()).add(called);
            return;
        }
        TreePath path = getCurrentPath();
        while (!(path.getLeaf() instanceof ClassTree)) {
            path = path.getParentPath();
        }
        for (Element member : element(path).getEnclosedElements()) {
            if (member.getSimpleName().contentEquals("<init>")) {
                calls.computeIfAbsent((ExecutableElement) member, key -> new HashSet<>()).add(called);
            }
        }
    }

    private boolean isMadeAtFirst() {
        ExecutableElement method = method();
        return method == null || method.getSimpleName().contentEquals("<init>");
    }

    private boolean isConstant(TreePath path) {
        if (path.getLeaf() instanceof LiteralTree literal) {
            return !Integer.valueOf(0).equals(literal.getValue());
        }
        if (path.getLeaf() instanceof BinaryTree binary) {
            return isConstant(new TreePath(path, binary.getLeftOperand()))
                    && isConstant(new TreePath(path, binary.getRightOperand()));
        }
        return path.getLeaf() instanceof IdentifierTree && element(path) instanceof VariableElement variable
                && variable.getConstantValue() instanceof Integer value && value > 0;
    }

    private boolean hasBound(ExpressionTree condition) {
        return condition.toString().matches("(?s).*[^<]<=? .*");
    }

    private static boolean isOwn(Element element) {
        return element.getEnclosingElement() instanceof TypeElement type
                && type.getQualifiedName().toString().matches("GluedWall(\\..*)?");
    }

    private static boolean ofTop(Element element) {
        return element.getEnclosingElement() instanceof TypeElement type
                && type.getQualifiedName().contentEquals("GluedWall");
    }

    /** A number, a sign, a truth value, a class of the file, or an array of one dimension of these. */
    private static boolean isPlain(TypeMirror type) {
        return type.toString().matches("(int|char|boolean|double|float|void|GluedWall(\\.\\w+)?)(\\[\\])?");
    }

    private static String simple(TypeMirror type) {
        return type.toString().replaceAll(".*\\.", "");
    }
}
