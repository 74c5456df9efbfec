import com.sun.source.tree.ArrayAccessTree;
import com.sun.source.tree.AssertTree;
import com.sun.source.tree.BinaryTree;
import com.sun.source.tree.ClassTree;
import com.sun.source.tree.CompilationUnitTree;
import com.sun.source.tree.CompoundAssignmentTree;
import com.sun.source.tree.ExpressionTree;
import com.sun.source.tree.ForLoopTree;
import com.sun.source.tree.IdentifierTree;
import com.sun.source.tree.LambdaExpressionTree;
import com.sun.source.tree.LiteralTree;
import com.sun.source.tree.MemberReferenceTree;
import com.sun.source.tree.MemberSelectTree;
import com.sun.source.tree.MethodInvocationTree;
import com.sun.source.tree.MethodTree;
import com.sun.source.tree.NewArrayTree;
import com.sun.source.tree.NewClassTree;
import com.sun.source.tree.PrimitiveTypeTree;
import com.sun.source.tree.SynchronizedTree;
import com.sun.source.tree.ThrowTree;
import com.sun.source.tree.Tree;
import com.sun.source.tree.TryTree;
import com.sun.source.tree.TypeCastTree;
import com.sun.source.tree.VariableTree;
import com.sun.source.util.JavacTask;
import com.sun.source.util.SourcePositions;
import com.sun.source.util.TreeScanner;
import com.sun.source.util.Trees;
import java.io.IOException;
import java.nio.file.Path;
import java.util.ArrayDeque;
import java.util.Deque;
import java.util.HashMap;
import java.util.HashSet;
import java.util.List;
import java.util.Map;
import java.util.Set;
import javax.lang.model.element.Modifier;
import javax.lang.model.type.TypeKind;
import javax.tools.JavaCompiler;
import javax.tools.StandardJavaFileManager;
import javax.tools.ToolProvider;

/**
 * Reads EastNearly's source and looks for what ../shared/LANGUAGE.md does not leave, as far as a reader of trees can,
 * and for what this project promised itself: no call makes an object, and arrays are touched in at() and put() alone.
 */
public final class LanguageTest extends TreeScanner<Void, Void> {
    private static final Path SOURCE = Path.of("src/main/java/EastNearly.java");
    private static final Set<String> LIBRARY = Set.of("Math.abs", "Math.min", "Math.max", "Integer.bitCount");
    private static final Set<String> CONSTANTS = Set.of("UNKNOWN", "BAD", "LATE", "FULL", "NONE");
    // they test their divisors themselves
    private static final Set<String> MAY_DIVIDE = Set.of("inLeastTerms", "greatestDivisor", "needleIn", "deal");

    private final Due due = new Due();
    private final CompilationUnitTree unit;
    private final SourcePositions positions;
    private final Deque<ClassTree> classes = new ArrayDeque<>();
    private final Map<String, Set<String>> calls = new HashMap<>();
    private final Set<String> publicNames = new HashSet<>();
    private final Set<String> otherNames = new HashSet<>();
    private MethodTree method = null;
    private int classCount = 0;

    private LanguageTest(CompilationUnitTree unit, SourcePositions positions) {
        this.unit = unit;
        this.positions = positions;
    }

    private long lineOf(long position) {
        return unit.getLineMap().getLineNumber(position);
    }

    private void fault(String what, Tree tree) {
        due.holds(what + " in line " + lineOf(positions.getStartPosition(unit, tree)), false);
    }

    private void must(boolean held, String what, Tree tree) {
        if (held) due.holds(what, true);
        else fault(what, tree);
    }

    private String methodName() {
        return method == null ? "" : method.getName().toString();
    }

    @Override
    public Void visitClass(ClassTree tree, Void none) {
        classCount++;
        Set<Modifier> modifiers = tree.getModifiers().getFlags();
        if (classes.isEmpty()) {
            must(modifiers.equals(Set.of(Modifier.PUBLIC, Modifier.FINAL)), "the class is public and final", tree);
        } else {
            must(method == null && modifiers.contains(Modifier.STATIC), "classes inside are static", tree);
            must(!modifiers.contains(Modifier.PUBLIC) && !modifiers.contains(Modifier.PROTECTED), "and hidden", tree);
        }
        long fields = tree.getMembers().stream().filter(m -> m instanceof VariableTree v
                && !v.getModifiers().getFlags().contains(Modifier.STATIC)).count();
        must(fields <= 20, "a class has some twenty fields at most", tree);
        classes.push(tree);
        super.visitClass(tree, none);
        classes.pop();
        return null;
    }

    @Override
    public Void visitMethod(MethodTree tree, Void none) {
        Set<Modifier> modifiers = tree.getModifiers().getFlags();
        boolean isPublic = modifiers.contains(Modifier.PUBLIC);
        must(isPublic ? classes.size() == 1 : modifiers.contains(Modifier.PRIVATE) || classes.size() > 1,
                "only the document's methods are seen", tree);
        must(tree.getParameters().size() <= 7, "seven parameters at most", tree);
        long first = lineOf(positions.getStartPosition(unit, tree));
        must(lineOf(positions.getEndPosition(unit, tree)) - first < 60, "sixty lines at most", tree);
        String name = tree.getName().toString();
        must(isPublic || !calls.containsKey(name), "no two methods of one name", tree);
        must(!Set.of("equals", "hashCode", "toString").contains(name), "no equals, hashCode, toString", tree);
        if (!name.equals("<init>")) (isPublic ? publicNames : otherNames).add(name);
        method = tree;
        if (!name.equals("<init>")) calls.put(name, new HashSet<>());
        super.visitMethod(tree, none);
        method = null;
        return null;
    }

    @Override
    public Void visitVariable(VariableTree tree, Void none) {
        Set<Modifier> modifiers = tree.getModifiers().getFlags();
        if (method == null) {
            boolean isConstant = modifiers.contains(Modifier.STATIC);
            must(!isConstant || modifiers.contains(Modifier.FINAL), "static fields are final", tree);
            boolean ofTheFace = classes.size() == 1 && CONSTANTS.contains(tree.getName().toString());
            must(modifiers.contains(ofTheFace ? Modifier.PUBLIC : Modifier.PRIVATE), "fields are hidden", tree);
        }
        return super.visitVariable(tree, none);
    }

    @Override
    public Void visitMethodInvocation(MethodInvocationTree tree, Void none) {
        ExpressionTree select = tree.getMethodSelect();
        String called = select.toString();
        if (select instanceof MemberSelectTree member) {
            String owner = member.getExpression().toString();
            if (owner.equals("Math") || owner.equals("Integer") || owner.equals("Long") || owner.equals("System")) {
                must(LIBRARY.contains(called), "the library's " + called, tree);
                calls.putIfAbsent(called, new HashSet<>());
            } else {
                called = member.getIdentifier().toString();
            }
        }
        if (method != null && !methodName().equals("<init>") && !called.equals("super")) {
            calls.get(methodName()).add(called);
        }
        return super.visitMethodInvocation(tree, none);
    }

    private void making(Tree tree) {
        must(method == null || methodName().equals("<init>"), "things are made with the object alone", tree);
    }

    @Override
    public Void visitNewClass(NewClassTree tree, Void none) {
        making(tree);
        must(tree.getClassBody() == null, "no anonymous classes", tree);
        return super.visitNewClass(tree, none);
    }

    @Override
    public Void visitNewArray(NewArrayTree tree, Void none) {
        making(tree);
        return super.visitNewArray(tree, none);
    }

    @Override
    public Void visitArrayAccess(ArrayAccessTree tree, Void none) {
        must(methodName().equals("at") || methodName().equals("put"), "arrays are touched in at() and put()", tree);
        return super.visitArrayAccess(tree, none);
    }

    private void dividing(ExpressionTree divisor, Tree tree) {
        boolean isConstant = divisor instanceof LiteralTree
                || divisor instanceof IdentifierTree && divisor.toString().equals(divisor.toString().toUpperCase());
        must(isConstant || MAY_DIVIDE.contains(methodName()), "a divisor is a constant, or tested", tree);
    }

    @Override
    public Void visitBinary(BinaryTree tree, Void none) {
        Tree.Kind kind = tree.getKind();
        if (kind == Tree.Kind.DIVIDE || kind == Tree.Kind.REMAINDER) dividing(tree.getRightOperand(), tree);
        return super.visitBinary(tree, none);
    }

    @Override
    public Void visitCompoundAssignment(CompoundAssignmentTree tree, Void none) {
        Tree.Kind kind = tree.getKind();
        boolean divides = kind == Tree.Kind.DIVIDE_ASSIGNMENT || kind == Tree.Kind.REMAINDER_ASSIGNMENT;
        if (divides) dividing(tree.getExpression(), tree);
        return super.visitCompoundAssignment(tree, none);
    }

    @Override
    public Void visitTypeCast(TypeCastTree tree, Void none) {
        must(tree.getType() instanceof PrimitiveTypeTree, "no casts among classes", tree);
        return super.visitTypeCast(tree, none);
    }

    @Override
    public Void visitPrimitiveType(PrimitiveTypeTree tree, Void none) {
        TypeKind kind = tree.getPrimitiveTypeKind();
        must(kind != TypeKind.DOUBLE && kind != TypeKind.FLOAT, "no doubles and floats", tree);
        return super.visitPrimitiveType(tree, none);
    }

    @Override
    public Void visitForLoop(ForLoopTree tree, Void none) {
        must(tree.getCondition() != null, "a loop has a bound", tree);
        return super.visitForLoop(tree, none);
    }

    @Override
    public Void visitLiteral(LiteralTree tree, Void none) {
        must(tree.getKind() != Tree.Kind.STRING_LITERAL, "no texts", tree);
        return super.visitLiteral(tree, none);
    }

    @Override
    public Void visitThrow(ThrowTree tree, Void none) {
        fault("throw", tree);
        return super.visitThrow(tree, none);
    }

    @Override
    public Void visitTry(TryTree tree, Void none) {
        fault("try", tree);
        return super.visitTry(tree, none);
    }

    @Override
    public Void visitAssert(AssertTree tree, Void none) {
        fault("assert", tree);
        return super.visitAssert(tree, none);
    }

    @Override
    public Void visitSynchronized(SynchronizedTree tree, Void none) {
        fault("synchronized", tree);
        return super.visitSynchronized(tree, none);
    }

    @Override
    public Void visitLambdaExpression(LambdaExpressionTree tree, Void none) {
        fault("a lambda", tree);
        return super.visitLambdaExpression(tree, none);
    }

    @Override
    public Void visitMemberReference(MemberReferenceTree tree, Void none) {
        fault("a method reference", tree);
        return super.visitMemberReference(tree, none);
    }

    /** How many calls stand open at once below and with this one; a call that comes back to itself counts as 1000. */
    private int depth(String name, int ahead) {
        if (ahead > 50) return 1000;
        int most = 0;
        for (String called : calls.get(name)) most = Math.max(most, depth(called, ahead + 1));
        return most + 1;
    }

    private void readWhole() {
        due.is("imports", unit.getImports().size(), 0);
        due.is("classes at the top", unit.getTypeDecls().size(), 1);
        due.holds("no package", unit.getPackageName() == null);
        scan(unit, null);
        due.holds("some twelve classes at most", classCount <= 12);
        due.is("methods of the face", publicNames.size(), 42);
        for (String name : otherNames) due.holds(name + " bears a public name", !publicNames.contains(name));
        for (Map.Entry<String, Set<String>> entry : calls.entrySet()) {
            entry.getValue().removeIf(called -> !calls.containsKey(called) && unknown(called));
        }
        for (String name : calls.keySet()) {
            int depth = depth(name, 0);
            due.holds(name + " goes " + depth + " deep", depth <= 8);
        }
        due.end("LanguageTest");
    }

    private boolean unknown(String called) {
        due.holds("the method " + called + " is not of this file", false);
        return true;
    }

    public static void main(String[] args) throws IOException {
        JavaCompiler compiler = ToolProvider.getSystemJavaCompiler();
        try (StandardJavaFileManager files = compiler.getStandardFileManager(null, null, null)) {
            JavacTask task = (JavacTask) compiler.getTask(null, files, null, List.of("-proc:none"), null,
                    files.getJavaFileObjects(SOURCE));
            CompilationUnitTree unit = task.parse().iterator().next();
            new LanguageTest(unit, Trees.instance(task).getSourcePositions()).readWhole();
        }
    }
}
