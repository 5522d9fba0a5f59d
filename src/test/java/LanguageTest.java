import com.sun.source.tree.AssignmentTree;
import com.sun.source.tree.BinaryTree;
import com.sun.source.tree.ClassTree;
import com.sun.source.tree.CompilationUnitTree;
import com.sun.source.tree.DoWhileLoopTree;
import com.sun.source.tree.ExpressionTree;
import com.sun.source.tree.ForLoopTree;
import com.sun.source.tree.LiteralTree;
import com.sun.source.tree.MethodInvocationTree;
import com.sun.source.tree.MethodTree;
import com.sun.source.tree.NewArrayTree;
import com.sun.source.tree.NewClassTree;
import com.sun.source.tree.ParenthesizedTree;
import com.sun.source.tree.ThrowTree;
import com.sun.source.tree.Tree;
import com.sun.source.tree.TypeCastTree;
import com.sun.source.tree.UnaryTree;
import com.sun.source.tree.VariableTree;
import com.sun.source.tree.WhileLoopTree;
import com.sun.source.util.JavacTask;
import com.sun.source.util.TreePath;
import com.sun.source.util.TreePathScanner;
import com.sun.source.util.Trees;
import java.nio.charset.StandardCharsets;
import java.nio.file.Path;
import java.util.EnumSet;
import java.util.List;
import java.util.Map;
import java.util.Set;
import java.util.TreeMap;
import java.util.TreeSet;
import javax.lang.model.element.Element;
import javax.lang.model.element.ExecutableElement;
import javax.lang.model.element.Modifier;
import javax.lang.model.element.TypeElement;
import javax.lang.model.type.ArrayType;
import javax.lang.model.type.TypeKind;
import javax.lang.model.type.TypeMirror;
import javax.tools.JavaCompiler;
import javax.tools.StandardJavaFileManager;
import javax.tools.ToolProvider;

/**
 * LANGUAGE.md, by the class as the compiler understands it. What the rules leave but the class does not use
 * is refused here, too: who needs it takes it out of here.
 */
public final class LanguageTest extends TreePathScanner<Void, Void> {
    private static final String CLASS = "StickPairs";
    // One less than the rule leaves, so that it holds whether or not the caller's own call is counted.
    private static final int DEEPEST = 7;
    private static final int LONGEST = 60;

    private static final Set<Tree.Kind> UNUSED = EnumSet.of(Tree.Kind.LAMBDA_EXPRESSION, Tree.Kind.MEMBER_REFERENCE,
            Tree.Kind.SYNCHRONIZED, Tree.Kind.ASSERT, Tree.Kind.TRY, Tree.Kind.INSTANCE_OF, Tree.Kind.SWITCH_EXPRESSION,
            Tree.Kind.YIELD, Tree.Kind.ENUM, Tree.Kind.RECORD, Tree.Kind.INTERFACE, Tree.Kind.ANNOTATION);
    private static final Set<String> LIBRARY = Set.of("java.lang.Math.min(int,int)",
            "java.lang.System.arraycopy(java.lang.Object,int,java.lang.Object,int,int)",
            "java.util.Arrays.fill(int[],int)", "java.lang.Object.Object()");
    private static final Set<String> EXCEPTIONS = Set.of("IllegalStateException", "IllegalArgumentException",
            "IndexOutOfBoundsException");
    private static final Set<Tree.Kind> ON_FRACTIONS = EnumSet.of(Tree.Kind.PLUS, Tree.Kind.MINUS, Tree.Kind.MULTIPLY,
            Tree.Kind.DIVIDE, Tree.Kind.LESS_THAN, Tree.Kind.LESS_THAN_EQUAL, Tree.Kind.GREATER_THAN,
            Tree.Kind.GREATER_THAN_EQUAL, Tree.Kind.EQUAL_TO, Tree.Kind.NOT_EQUAL_TO);

    private final CompilationUnitTree unit;
    private final Trees trees;
    private final Map<String, Set<String>> calls = new TreeMap<>();
    private int classes = 0;
    private String where = "";

    private LanguageTest(CompilationUnitTree unit, Trees trees) {
        this.unit = unit;
        this.trees = trees;
    }

    private void require(boolean holds, int rule, String what) {
        Check.same("rule " + rule + ", " + where + ": " + what, holds ? 1 : 0, 1);
    }

    private long line(long position) {
        return unit.getLineMap().getLineNumber(position);
    }

    private long lines(Tree tree) {
        long first = trees.getSourcePositions().getStartPosition(unit, tree);
        return line(trees.getSourcePositions().getEndPosition(unit, tree)) - line(first) + 1;
    }

    private TypeMirror type(Tree tree) {
        return trees.getTypeMirror(new TreePath(getCurrentPath(), tree));
    }

    private static boolean isOwn(TypeElement type) {
        return (type.getQualifiedName() + ".").startsWith(CLASS + ".");
    }

    private boolean isAllowed(TypeMirror type) {
        if (type.getKind() == TypeKind.ARRAY) {
            return isAllowed(((ArrayType) type).getComponentType());
        }
        return type.getKind().isPrimitive() || (type + ".").startsWith(CLASS + ".") || type.toString().endsWith(".String");
    }

    private static boolean isFraction(TypeMirror type) {
        return type.getKind() == TypeKind.DOUBLE || type.getKind() == TypeKind.FLOAT;
    }

    private static String name(Element method) {
        return method.getEnclosingElement() + "." + method;
    }

    /** The method round the place, a class's constructor for what makes its fields. */
    private ExecutableElement around() {
        for (TreePath path = getCurrentPath(); path != null; path = path.getParentPath()) {
            Tree tree = path.getLeaf();
            if (tree instanceof MethodTree) {
                return (ExecutableElement) trees.getElement(path);
            }
            if (tree instanceof ClassTree) {
                for (Element each : trees.getElement(path).getEnclosedElements()) {
                    if (each.getSimpleName().contentEquals("<init>")) {
                        return (ExecutableElement) each;
                    }
                }
            }
        }
        throw new IllegalStateException("no method round it");
    }

    private boolean inConstructor() {
        return around().getSimpleName().contentEquals("<init>");
    }

    private void call(ExecutableElement called) {
        if (isOwn((TypeElement) called.getEnclosingElement())) {
            calls.computeIfAbsent(name(around()), key -> new TreeSet<>()).add(name(called));
        } else {
            require(LIBRARY.contains(name(called)), 4, "calls " + name(called));
        }
    }

    @Override
    public Void scan(Tree tree, Void none) {
        if (tree != null) {
            require(!UNUSED.contains(tree.getKind()), 2, "has a " + tree.getKind());
        }
        return super.scan(tree, none);
    }

    @Override
    public Void visitClass(ClassTree tree, Void none) {
        where = tree.getSimpleName().toString();
        classes++;
        int fields = 0;
        for (Tree member : tree.getMembers()) {
            require(member.getKind() != Tree.Kind.BLOCK, 5, "has an initialiser block");
            if (member instanceof VariableTree) {
                boolean isStatic = ((VariableTree) member).getModifiers().getFlags().contains(Modifier.STATIC);
                fields += isStatic ? 0 : 1;
            }
        }
        require(fields <= 20, 11, "has " + fields + " fields");
        Element type = trees.getElement(getCurrentPath());
        boolean outer = type.getSimpleName().contentEquals(CLASS);
        require(outer || type.getModifiers().contains(Modifier.STATIC), 2, "is not static");
        require(outer || type.getModifiers().contains(Modifier.PRIVATE), 1, "is not private");
        return super.visitClass(tree, none);
    }

    @Override
    public Void visitMethod(MethodTree tree, Void none) {
        ExecutableElement method = (ExecutableElement) trees.getElement(getCurrentPath());
        where = name(method);
        require(tree.getParameters().size() <= 7, 11, "takes " + tree.getParameters().size() + " parameters");
        require(lines(tree) <= LONGEST, 11, "has " + lines(tree) + " lines");
        require(tree.getReturnType() == null || method.getReturnType().getKind() == TypeKind.VOID
                || isAllowed(method.getReturnType()), 3, "returns " + method.getReturnType());
        calls.computeIfAbsent(where, key -> new TreeSet<>());
        return super.visitMethod(tree, none);
    }

    @Override
    public Void visitVariable(VariableTree tree, Void none) {
        Element variable = trees.getElement(getCurrentPath());
        require(isAllowed(variable.asType()), 3, "has a " + variable.asType());
        if (variable.getModifiers().contains(Modifier.STATIC)) {
            require(variable.getModifiers().contains(Modifier.FINAL), 5, variable + " is a static variable");
        }
        return super.visitVariable(tree, none);
    }

    @Override
    public Void visitMethodInvocation(MethodInvocationTree tree, Void none) {
        call((ExecutableElement) trees.getElement(getCurrentPath()));
        return super.visitMethodInvocation(tree, none);
    }

    @Override
    public Void visitNewClass(NewClassTree tree, Void none) {
        ExecutableElement made = (ExecutableElement) trees.getElement(getCurrentPath());
        require(tree.getClassBody() == null, 2, "has a class without a name");
        if (isOwn((TypeElement) made.getEnclosingElement())) {
            require(inConstructor(), 12, "makes a " + made.getEnclosingElement());
            call(made);
        } else {
            require(getCurrentPath().getParentPath().getLeaf() instanceof ThrowTree, 6, "makes an exception");
        }
        return super.visitNewClass(tree, none);
    }

    @Override
    public Void visitNewArray(NewArrayTree tree, Void none) {
        require(inConstructor(), 12, "makes an array");
        require(tree.getDimensions().size() == 1, 3, "makes an array of several dimensions");
        return super.visitNewArray(tree, none);
    }

    @Override
    public Void visitThrow(ThrowTree tree, Void none) {
        ExpressionTree thrown = tree.getExpression();
        ExecutableElement method = around();
        require(thrown instanceof NewClassTree, 6, "throws what it has not made");
        require(!inConstructor(), 6, "throws in a constructor");
        require(method.getModifiers().contains(Modifier.PUBLIC), 6, "throws, though it is not of the face");
        TypeMirror type = type(thrown);
        require(EXCEPTIONS.contains(type.toString().substring(type.toString().lastIndexOf('.') + 1)), 6, "throws " + type);
        require(method.getThrownTypes().contains(type), 6, "throws " + type + ", which it does not name");
        for (ExpressionTree text : ((NewClassTree) thrown).getArguments()) {
            require(text.getKind() == Tree.Kind.STRING_LITERAL, 6, "makes a text for an exception");
        }
        return super.visitThrow(tree, none);
    }

    @Override
    public Void visitBinary(BinaryTree tree, Void none) {
        TypeMirror left = type(tree.getLeftOperand());
        TypeMirror right = type(tree.getRightOperand());
        require(!left.toString().endsWith("String") && !right.toString().endsWith("String"), 10, "joins texts");
        if (isFraction(left) || isFraction(right)) {
            require(ON_FRACTIONS.contains(tree.getKind()), 3, "has " + tree.getKind() + " on fractions");
        }
        return super.visitBinary(tree, none);
    }

    @Override
    public Void visitUnary(UnaryTree tree, Void none) {
        require(!isFraction(type(tree.getExpression())), 3, "has " + tree.getKind() + " on a fraction");
        return super.visitUnary(tree, none);
    }

    @Override
    public Void visitTypeCast(TypeCastTree tree, Void none) {
        require(type(tree.getType()).getKind().isPrimitive(), 7, "casts to " + tree.getType());
        return super.visitTypeCast(tree, none);
    }

    private void end(ExpressionTree condition) {
        ExpressionTree bare = condition;
        while (bare instanceof ParenthesizedTree) {
            bare = ((ParenthesizedTree) bare).getExpression();
        }
        require(bare != null && !(bare instanceof LiteralTree) && !(bare instanceof AssignmentTree), 9, "has a loop without end");
    }

    @Override
    public Void visitForLoop(ForLoopTree tree, Void none) {
        end(tree.getCondition());
        require(!tree.getUpdate().isEmpty(), 9, "has a loop whose counter stays");
        return super.visitForLoop(tree, none);
    }

    @Override
    public Void visitWhileLoop(WhileLoopTree tree, Void none) {
        end(tree.getCondition());
        return super.visitWhileLoop(tree, none);
    }

    @Override
    public Void visitDoWhileLoop(DoWhileLoopTree tree, Void none) {
        end(tree.getCondition());
        return super.visitDoWhileLoop(tree, none);
    }

    /** How many methods of the class stand open at most when this one is called; a recursion goes too deep. */
    private int depth(String method, int above) {
        if (above > DEEPEST) {
            return 1;
        }
        int deepest = 0;
        for (String called : calls.getOrDefault(method, Set.of())) {
            deepest = Math.max(deepest, depth(called, above + 1));
        }
        return deepest + 1;
    }

    private void whole() {
        where = CLASS;
        require(classes <= 12, 11, "has " + classes + " classes");
        for (String method : calls.keySet()) {
            where = method;
            int depth = depth(method, 1);
            require(depth <= DEEPEST, 11, "goes " + depth + " deep");
        }
    }

    public static void main(String[] args) throws Exception {
        JavaCompiler compiler = ToolProvider.getSystemJavaCompiler();
        try (StandardJavaFileManager files = compiler.getStandardFileManager(null, null, StandardCharsets.UTF_8)) {
            JavacTask task = (JavacTask) compiler.getTask(null, files, null, List.of("-proc:none"), null,
                    files.getJavaFileObjects(Path.of("src/main/java/StickPairs.java")));
            CompilationUnitTree unit = task.parse().iterator().next();
            task.analyze();
            Check.same("rule 1: a package line", unit.getPackageName() == null ? 0 : 1, 0);
            LanguageTest test = new LanguageTest(unit, Trees.instance(task));
            test.scan(unit, null);
            test.whole();
        }
        Check.end("LanguageTest");
    }
}
