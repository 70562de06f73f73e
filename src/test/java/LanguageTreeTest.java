import com.sun.source.tree.ArrayAccessTree;
import com.sun.source.tree.AssertTree;
import com.sun.source.tree.AssignmentTree;
import com.sun.source.tree.BinaryTree;
import com.sun.source.tree.ClassTree;
import com.sun.source.tree.CompilationUnitTree;
import com.sun.source.tree.CompoundAssignmentTree;
import com.sun.source.tree.DoWhileLoopTree;
import com.sun.source.tree.ExpressionTree;
import com.sun.source.tree.ForLoopTree;
import com.sun.source.tree.InstanceOfTree;
import com.sun.source.tree.LambdaExpressionTree;
import com.sun.source.tree.LiteralTree;
import com.sun.source.tree.MemberReferenceTree;
import com.sun.source.tree.MethodInvocationTree;
import com.sun.source.tree.MethodTree;
import com.sun.source.tree.NewArrayTree;
import com.sun.source.tree.NewClassTree;
import com.sun.source.tree.SynchronizedTree;
import com.sun.source.tree.ThrowTree;
import com.sun.source.tree.Tree;
import com.sun.source.tree.TryTree;
import com.sun.source.tree.TypeCastTree;
import com.sun.source.tree.UnaryTree;
import com.sun.source.tree.VariableTree;
import com.sun.source.tree.WhileLoopTree;
import com.sun.source.util.JavacTask;
import com.sun.source.util.TreePath;
import com.sun.source.util.TreePathScanner;
import com.sun.source.util.Trees;
import java.io.IOException;
import java.nio.file.Path;
import java.util.ArrayList;
import java.util.HashMap;
import java.util.HashSet;
import java.util.List;
import java.util.Map;
import java.util.Set;
import javax.lang.model.element.Element;
import javax.lang.model.element.ElementKind;
import javax.lang.model.element.ExecutableElement;
import javax.lang.model.element.Modifier;
import javax.lang.model.element.TypeElement;
import javax.lang.model.element.VariableElement;
import javax.lang.model.type.ArrayType;
import javax.lang.model.type.TypeKind;
import javax.lang.model.type.TypeMirror;
import javax.tools.JavaCompiler;
import javax.tools.StandardJavaFileManager;
import javax.tools.ToolProvider;

/**
 * The rules of ../shared/LANGUAGE.md that are looked up in the tree that javac makes of the file; each check begins with
 * the number of its rule. It holds the program to a narrower part of the language than the rules leave: that part which
 * the program uses. One that comes to use more of it widens the lists here.
 */
public final class LanguageTreeTest extends TreePathScanner<Void, Void> {
    private static final Check CHECK = new Check("LanguageTreeTest");
    private static final Path FILE = Path.of("src/main/java/EvenWheel.java");
    private static final Set<String> LIBRARY = Set.of("java.lang.Math.max", "java.lang.Math.min", "java.lang.Math.abs",
        "java.lang.Math.floorDiv", "java.lang.System.arraycopy", "java.util.Arrays.fill", "java.lang.Object.<init>");
    private static final int MOST_DEEP = 8;
    private static final int MOST_PARAMETERS = 7;
    private static final int MOST_CLASSES = 12;
    private static final int MOST_FIELDS = 20;

    private final Trees trees;
    private final Map<Element, Set<Element>> calls = new HashMap<>();
    private final Map<Element, Integer> depths = new HashMap<>();
    private final Set<String> publicNames = new HashSet<>();
    private int classes;

    private LanguageTreeTest(Trees trees) {
        this.trees = trees;
    }

    public static void main(String[] args) throws IOException {
        JavaCompiler compiler = ToolProvider.getSystemJavaCompiler();
        if (compiler == null) {
            System.out.println("LanguageTreeTest: this machine's java has no javac with it");
            return;
        }
        try (StandardJavaFileManager files = compiler.getStandardFileManager(null, null, null)) {
            JavacTask task = (JavacTask) compiler.getTask(null, files, null, List.of("-proc:none"), null,
                files.getJavaFileObjects(FILE));
            List<CompilationUnitTree> units = new ArrayList<>();
            task.parse().forEach(units::add);
            task.analyze();
            CHECK.that("1 one file, without a package", units.size() == 1 && units.get(0).getPackageName() == null);
            LanguageTreeTest test = new LanguageTreeTest(Trees.instance(task));
            units.forEach(unit -> test.scan(unit, null));
            test.callsInAll();
        }
        CHECK.end();
    }

    private String where() {
        TreePath path = getCurrentPath();
        long at = trees.getSourcePositions().getStartPosition(path.getCompilationUnit(), path.getLeaf());
        return " in line " + path.getCompilationUnit().getLineMap().getLineNumber(at);
    }

    private void never(String what) {
        CHECK.that(what + where(), false);
    }

    private TypeMirror typeOf(Tree tree) {
        return trees.getTypeMirror(new TreePath(getCurrentPath(), tree));
    }

    private Element elementOf(Tree tree) {
        return trees.getElement(new TreePath(getCurrentPath(), tree));
    }

    private Element methodAround() {
        for (TreePath path = getCurrentPath(); path != null; path = path.getParentPath()) {
            if (path.getLeaf() instanceof MethodTree) {
                return trees.getElement(path);
            }
        }
        return null;
    }

    private static boolean isOwn(Element element) {
        for (Element at = element; at != null; at = at.getEnclosingElement()) {
            if (at instanceof TypeElement && ((TypeElement) at).getQualifiedName().contentEquals("EvenWheel")) {
                return true;
            }
        }
        return false;
    }

    // ---- classes, fields, types

    @Override
    public Void visitClass(ClassTree tree, Void none) {
        classes++;
        Element element = trees.getElement(getCurrentPath());
        boolean inside = element.getEnclosingElement() instanceof TypeElement;
        CHECK.that("2 in a class, not in a method" + where(), inside || element.getSimpleName().contentEquals("EvenWheel"));
        CHECK.that("2 static" + where(), !inside || element.getModifiers().contains(Modifier.STATIC));
        CHECK.that("2 a class, and no more" + where(), element.getKind() == ElementKind.CLASS);
        int fields = 0;
        for (Element member : element.getEnclosedElements()) {
            if (member.getKind() == ElementKind.FIELD && !member.getModifiers().contains(Modifier.STATIC)) {
                fields++;
                CHECK.that("1 a private field: " + member, member.getModifiers().contains(Modifier.PRIVATE));
            }
            if (!inside && member.getModifiers().contains(Modifier.PUBLIC)) {
                publicNames.add(member.getSimpleName().toString());
            }
        }
        CHECK.that("11 some twenty fields: " + element, fields <= MOST_FIELDS);
        return super.visitClass(tree, none);
    }

    private static boolean isNumber(TypeMirror type) {
        return type.getKind() == TypeKind.INT || type.getKind() == TypeKind.LONG;
    }

    private static boolean isAllowed(TypeMirror type) {
        if (type instanceof ArrayType) {
            TypeMirror part = ((ArrayType) type).getComponentType();
            boolean rows = part instanceof ArrayType && isNumber(((ArrayType) part).getComponentType());
            return rows || !(part instanceof ArrayType) && isAllowed(part);
        }
        return isNumber(type) || type.getKind() == TypeKind.BOOLEAN || type.getKind() == TypeKind.VOID
            || type.getKind() == TypeKind.DECLARED && type.toString().startsWith("EvenWheel.");
    }

    @Override
    public Void visitVariable(VariableTree tree, Void none) {
        Element element = trees.getElement(getCurrentPath());
        CHECK.that("3 its type" + where(), isAllowed(element.asType()));
        if (element.getKind() == ElementKind.FIELD && element.getModifiers().contains(Modifier.STATIC)) {
            CHECK.that("5 final" + where(), element.getModifiers().contains(Modifier.FINAL));
            boolean constant = ((VariableElement) element).getConstantValue() != null;
            CHECK.that("5 a constant, or an array written out" + where(), constant || isWrittenOut(tree.getInitializer()));
        }
        return super.visitVariable(tree, none);
    }

    private static boolean isWrittenOut(ExpressionTree value) {
        return value instanceof NewArrayTree && ((NewArrayTree) value).getInitializers() != null
            && ((NewArrayTree) value).getInitializers().stream().allMatch(each -> each instanceof LiteralTree);
    }

    @Override
    public Void visitAssignment(AssignmentTree tree, Void none) {
        changes(tree.getVariable());
        return super.visitAssignment(tree, none);
    }

    @Override
    public Void visitCompoundAssignment(CompoundAssignmentTree tree, Void none) {
        changes(tree.getVariable());
        if (tree.getKind() == Tree.Kind.DIVIDE_ASSIGNMENT || tree.getKind() == Tree.Kind.REMAINDER_ASSIGNMENT) {
            dividesBy(tree.getExpression());
        }
        return super.visitCompoundAssignment(tree, none);
    }

    @Override
    public Void visitUnary(UnaryTree tree, Void none) {
        if (tree.getKind() != Tree.Kind.UNARY_MINUS && tree.getKind() != Tree.Kind.LOGICAL_COMPLEMENT) {
            changes(tree.getExpression());
        }
        return super.visitUnary(tree, none);
    }

    private void changes(Tree target) {
        if (target instanceof ArrayAccessTree) {
            Element array = trees.getElement(new TreePath(new TreePath(getCurrentPath(), target),
                ((ArrayAccessTree) target).getExpression()));
            CHECK.that("5 never changed" + where(), array == null || !array.getModifiers().contains(Modifier.STATIC));
        }
    }

    // ---- what is never there

    @Override
    public Void visitLambdaExpression(LambdaExpressionTree tree, Void none) {
        never("2 a lambda");
        return super.visitLambdaExpression(tree, none);
    }

    @Override
    public Void visitMemberReference(MemberReferenceTree tree, Void none) {
        never("2 a method reference");
        return super.visitMemberReference(tree, none);
    }

    @Override
    public Void visitThrow(ThrowTree tree, Void none) {
        never("6 throw");
        return super.visitThrow(tree, none);
    }

    @Override
    public Void visitTry(TryTree tree, Void none) {
        never("6 try");
        return super.visitTry(tree, none);
    }

    @Override
    public Void visitSynchronized(SynchronizedTree tree, Void none) {
        never("6 synchronized");
        return super.visitSynchronized(tree, none);
    }

    @Override
    public Void visitAssert(AssertTree tree, Void none) {
        never("6 assert");
        return super.visitAssert(tree, none);
    }

    @Override
    public Void visitTypeCast(TypeCastTree tree, Void none) {
        CHECK.that("6 a cast of numbers alone" + where(), isNumber(typeOf(tree.getExpression())));
        return super.visitTypeCast(tree, none);
    }

    @Override
    public Void visitInstanceOf(InstanceOfTree tree, Void none) {
        never("6 instanceof");
        return super.visitInstanceOf(tree, none);
    }

    // ---- what may throw or never end

    @Override
    public Void visitBinary(BinaryTree tree, Void none) {
        if (tree.getKind() == Tree.Kind.DIVIDE || tree.getKind() == Tree.Kind.REMAINDER) {
            dividesBy(tree.getRightOperand());
        }
        if (tree.getKind() == Tree.Kind.PLUS) {
            CHECK.that("10 a sum of numbers" + where(), isNumber(typeOf(tree)));
        }
        return super.visitBinary(tree, none);
    }

    private void dividesBy(ExpressionTree divisor) {
        Element element = elementOf(divisor);
        Object value = divisor instanceof LiteralTree ? ((LiteralTree) divisor).getValue()
            : element instanceof VariableElement ? ((VariableElement) element).getConstantValue() : null;
        CHECK.that("7 a divisor that is a constant, and not 0" + where(), value instanceof Number && ((Number) value).longValue() != 0);
    }

    @Override
    public Void visitForLoop(ForLoopTree tree, Void none) {
        CHECK.that("9 an end that can be seen" + where(), tree.getCondition() != null && !tree.getUpdate().isEmpty());
        return super.visitForLoop(tree, none);
    }

    @Override
    public Void visitWhileLoop(WhileLoopTree tree, Void none) {
        CHECK.that("9 an end that can be seen" + where(), !tree.getCondition().toString().equals("(true)"));
        return super.visitWhileLoop(tree, none);
    }

    @Override
    public Void visitDoWhileLoop(DoWhileLoopTree tree, Void none) {
        CHECK.that("9 an end that can be seen" + where(), !tree.getCondition().toString().equals("(true)"));
        return super.visitDoWhileLoop(tree, none);
    }

    // ---- objects and calls

    @Override
    public Void visitNewClass(NewClassTree tree, Void none) {
        CHECK.that("2 no class without a name" + where(), tree.getClassBody() == null);
        madeWhereObjectsBegin();
        called(trees.getElement(getCurrentPath()));
        return super.visitNewClass(tree, none);
    }

    @Override
    public Void visitNewArray(NewArrayTree tree, Void none) {
        madeWhereObjectsBegin();
        return super.visitNewArray(tree, none);
    }

    private void madeWhereObjectsBegin() {
        Element around = methodAround();
        CHECK.that("12 made in a constructor" + where(), around == null || around.getKind() == ElementKind.CONSTRUCTOR);
    }

    @Override
    public Void visitMethodInvocation(MethodInvocationTree tree, Void none) {
        Element method = trees.getElement(getCurrentPath());
        if (method.getSimpleName().contentEquals("floorDiv")) {
            String guard = tree.getArguments().get(1) + " == 0 ? 0 : " + tree;
            CHECK.that("7 a divisor that is looked at" + where(), getCurrentPath().getParentPath().getLeaf().toString().equals(guard));
        }
        called(method);
        return super.visitMethodInvocation(tree, none);
    }

    private void called(Element method) {
        if (!isOwn(method)) {
            String name = method.getEnclosingElement() + "." + method.getSimpleName();
            CHECK.that("4 of the library: " + name + where(), LIBRARY.contains(name));
            return;
        }
        Element around = methodAround();
        if (around != null) {
            calls.computeIfAbsent(around, each -> new HashSet<>()).add(method);
        }
    }

    @Override
    public Void visitMethod(MethodTree tree, Void none) {
        ExecutableElement method = (ExecutableElement) trees.getElement(getCurrentPath());
        calls.computeIfAbsent(method, each -> new HashSet<>());
        CHECK.that("11 seven parameters: " + method, method.getParameters().size() <= MOST_PARAMETERS);
        CHECK.that("6 throws nothing: " + method, method.getThrownTypes().isEmpty());
        boolean ofTheFace = method.getModifiers().contains(Modifier.PUBLIC);
        CHECK.that("1 no name of the face: " + method, ofTheFace || method.getKind() == ElementKind.CONSTRUCTOR
            || !publicNames.contains(method.getSimpleName().toString()));
        return super.visitMethod(tree, none);
    }

    /** Behind the last method: which calls which, how deep, and in no circle. */
    private void callsInAll() {
        CHECK.that("11 some twelve classes, not " + classes, classes <= MOST_CLASSES);
        CHECK.that("methods were found", calls.size() > 100);
        for (Element method : calls.keySet()) {
            int deep = depth(method, new HashSet<>());
            CHECK.that("11 at most eight deep, not " + deep + ": " + method, deep <= MOST_DEEP);
        }
    }

    private int depth(Element method, Set<Element> open) {
        if (depths.containsKey(method)) {
            return depths.get(method);
        }
        boolean first = open.add(method);
        CHECK.that("8 no recursion: " + method, first);
        int deepest = 0;
        for (Element next : first ? calls.getOrDefault(method, Set.of()) : Set.<Element>of()) {
            deepest = Math.max(deepest, depth(next, open));
        }
        open.remove(method);
        depths.put(method, deepest + 1);
        return deepest + 1;
    }
}
