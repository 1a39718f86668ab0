import com.sun.source.tree.ArrayAccessTree;
import com.sun.source.tree.AssertTree;
import com.sun.source.tree.BinaryTree;
import com.sun.source.tree.BlockTree;
import com.sun.source.tree.ClassTree;
import com.sun.source.tree.CompilationUnitTree;
import com.sun.source.tree.CompoundAssignmentTree;
import com.sun.source.tree.ExpressionTree;
import com.sun.source.tree.LambdaExpressionTree;
import com.sun.source.tree.LiteralTree;
import com.sun.source.tree.MemberReferenceTree;
import com.sun.source.tree.MethodInvocationTree;
import com.sun.source.tree.MethodTree;
import com.sun.source.tree.NewArrayTree;
import com.sun.source.tree.NewClassTree;
import com.sun.source.tree.SynchronizedTree;
import com.sun.source.tree.ThrowTree;
import com.sun.source.tree.Tree;
import com.sun.source.tree.TryTree;
import com.sun.source.tree.TypeCastTree;
import com.sun.source.tree.VariableTree;
import com.sun.source.util.SourcePositions;
import com.sun.source.util.TreePath;
import com.sun.source.util.TreePathScanner;
import com.sun.source.util.Trees;
import java.util.Collections;
import java.util.HashMap;
import java.util.LinkedHashSet;
import java.util.List;
import java.util.Map;
import java.util.Set;
import java.util.TreeSet;
import javax.lang.model.element.Element;
import javax.lang.model.element.ExecutableElement;
import javax.lang.model.element.Modifier;
import javax.lang.model.element.TypeElement;
import javax.lang.model.element.VariableElement;
import javax.lang.model.type.ArrayType;
import javax.lang.model.type.DeclaredType;
import javax.lang.model.type.TypeMirror;

/**
 * Looks in a source for what ../shared/LANGUAGE.md rules out. Where a rule leaves more than the
 * class needs (lists, try and catch, recursion), this takes the stricter side.
 */
final class SourceRules extends TreePathScanner<Void, Void> {
    private static final String THE_CLASS = "FingerPosts";
    private static final int MOST_PARAMETERS = 7;
    private static final int MOST_LINES = 60;
    private static final int MOST_CALLS_DEEP = 8;
    private static final int MOST_CLASSES = 12;
    private static final int MOST_FIELDS = 20;

    private static final Set<String> EXCEPTIONS = Set.of("IllegalStateException",
        "IllegalArgumentException", "IndexOutOfBoundsException");
    private static final Set<String> LIBRARY = Set.of("Math.max", "Math.min");
    private static final Set<String> CONSTANTS = Set.of("int", "long", "boolean", "char",
        "java.lang.String", "int[]", "long[]", "char[]", "byte[]");
    private static final Set<String> ROW_READERS = Set.of("read", "write");
    private static final Set<String> TESTS_ITS_DIVISOR = Set.of("mean");

    private final Trees trees;
    private final SourcePositions positions;
    private final CompilationUnitTree unit;
    private final Set<String> face;
    private final Set<String> faults = new TreeSet<>();
    private final Map<Element, Set<Element>> calls = new HashMap<>();
    private int classes = 0;

    SourceRules(Trees trees, CompilationUnitTree unit, Set<String> face) {
        this.trees = trees;
        this.positions = trees.getSourcePositions();
        this.unit = unit;
        this.face = face;
    }

    /** Each fault is told by its rule's number and its line. */
    Set<String> faults() {
        scan(unit, null);
        unless(unit.getPackage() == null && unit.getImports().isEmpty(), 1, unit, "a package, an import");
        unless(unit.getTypeDecls().size() == 1, 1, unit, "classes beside");
        unless(classes <= MOST_CLASSES, 11, unit, "classes");
        for (Element method : calls.keySet()) {
            boolean good = deepest(method, new LinkedHashSet<>()) <= MOST_CALLS_DEEP;
            unless(good, 11, trees.getTree(method), "calls too deep");
        }
        return faults;
    }

    @Override
    public Void visitClass(ClassTree tree, Void nothing) {
        classes++;
        Set<Modifier> modifiers = tree.getModifiers().getFlags();
        Tree.Kind outside = getCurrentPath().getParentPath().getLeaf().getKind();
        if (outside == Tree.Kind.COMPILATION_UNIT) {
            boolean named = tree.getSimpleName().contentEquals(THE_CLASS);
            boolean open = modifiers.containsAll(Set.of(Modifier.PUBLIC, Modifier.FINAL));
            unless(named && open, 1, tree, "the class");
        } else {
            boolean hidden = Collections.disjoint(modifiers, Set.of(Modifier.PUBLIC, Modifier.PROTECTED));
            boolean plain = outside == Tree.Kind.CLASS && tree.getKind() == Tree.Kind.CLASS;
            unless(hidden && modifiers.contains(Modifier.STATIC), 1, tree, "a class inside");
            unless(plain, 2, tree, "a kind of class");
        }
        long fields = tree.getMembers().stream().filter(SourceRules::isOwnField).count();
        unless(fields <= MOST_FIELDS, 11, tree, "fields");
        tree.getMembers().forEach(this::lookAtMember);
        return super.visitClass(tree, nothing);
    }

    private static boolean isOwnField(Tree member) {
        return member instanceof VariableTree
            && !((VariableTree) member).getModifiers().getFlags().contains(Modifier.STATIC);
    }

    private void lookAtMember(Tree member) {
        if (member instanceof BlockTree) {
            unless(!((BlockTree) member).isStatic(), 5, member, "a static initialiser");
        }
        if (member instanceof VariableTree && !isOwnField(member)) {
            VariableTree field = (VariableTree) member;
            unless(field.getModifiers().getFlags().contains(Modifier.FINAL), 5, member, "a static state");
            unless(CONSTANTS.contains(typeOf(field).toString()), 5, member, "a constant's type");
        }
    }

    @Override
    public Void visitMethod(MethodTree tree, Void nothing) {
        Element method = trees.getElement(getCurrentPath());
        calls.putIfAbsent(method, new LinkedHashSet<>());
        boolean ofFace = tree.getModifiers().getFlags().contains(Modifier.PUBLIC);
        unless(ofFace || !face.contains(tree.getName().toString()), 1, tree, "a name of the face");
        unless(tree.getParameters().size() <= MOST_PARAMETERS, 11, tree, "parameters");
        long lines = lineOf(positions.getEndPosition(unit, tree)) - line(tree) + 1;
        unless(lines <= MOST_LINES, 11, tree, "lines");
        return super.visitMethod(tree, nothing);
    }

    @Override
    public Void visitVariable(VariableTree tree, Void nothing) {
        unless(mayBeHeld(typeOf(tree)), 3, tree, "a type");
        return super.visitVariable(tree, nothing);
    }

    @Override
    public Void visitMethodInvocation(MethodInvocationTree tree, Void nothing) {
        ExecutableElement called = (ExecutableElement) trees.getElement(getCurrentPath());
        TypeElement owner = (TypeElement) called.getEnclosingElement();
        if (isOwn(owner)) {
            calledHere(called);
        } else if (!called.getSimpleName().contentEquals("<init>")) {
            String name = owner.getSimpleName() + "." + called.getSimpleName();
            boolean overDoubles = called.getReturnType().toString().matches("double|float");
            unless(LIBRARY.contains(name) && !overDoubles, 4, tree, name);
        }
        return super.visitMethodInvocation(tree, nothing);
    }

    @Override
    public Void visitNewClass(NewClassTree tree, Void nothing) {
        ExecutableElement called = (ExecutableElement) trees.getElement(getCurrentPath());
        TypeElement made = (TypeElement) called.getEnclosingElement();
        if (isOwn(made)) {
            calledHere(called);
            unless(isMadeOnce(), 12, tree, "an object made by a call");
        } else {
            boolean thrown = getCurrentPath().getParentPath().getLeaf() instanceof ThrowTree;
            unless(thrown, 4, tree, made.toString());
        }
        return super.visitNewClass(tree, nothing);
    }

    @Override
    public Void visitNewArray(NewArrayTree tree, Void nothing) {
        unless(isMadeOnce(), 12, tree, "an array made by a call");
        unless(tree.getDimensions().stream().allMatch(this::isConstant), 7, tree, "a length");
        return super.visitNewArray(tree, nothing);
    }

    @Override
    public Void visitThrow(ThrowTree tree, Void nothing) {
        ExpressionTree thrown = tree.getExpression();
        boolean good = false;
        if (thrown instanceof NewClassTree) {
            NewClassTree made = (NewClassTree) thrown;
            List<? extends ExpressionTree> texts = made.getArguments();
            good = EXCEPTIONS.contains(made.getIdentifier().toString())
                && (texts.isEmpty() || texts.size() == 1 && texts.get(0) instanceof LiteralTree);
        }
        unless(good, 6, tree, "a throw");
        unless(!methodName().equals("<init>"), 6, tree, "a throw in a constructor");
        return super.visitThrow(tree, nothing);
    }

    @Override
    public Void visitArrayAccess(ArrayAccessTree tree, Void nothing) {
        unless(ROW_READERS.contains(methodName()), 7, tree, "an index");
        return super.visitArrayAccess(tree, nothing);
    }

    @Override
    public Void visitTypeCast(TypeCastTree tree, Void nothing) {
        unless(typeOf(tree.getType()).getKind().isPrimitive(), 7, tree, "a cast");
        return super.visitTypeCast(tree, nothing);
    }

    @Override
    public Void visitBinary(BinaryTree tree, Void nothing) {
        if (tree.getKind() == Tree.Kind.DIVIDE || tree.getKind() == Tree.Kind.REMAINDER) {
            boolean tested = TESTS_ITS_DIVISOR.contains(methodName());
            unless(tested || isConstant(tree.getRightOperand()), 7, tree, "a divisor");
        }
        unless(!typeOf(tree).toString().equals("java.lang.String"), 10, tree, "texts joined by +");
        return super.visitBinary(tree, nothing);
    }

    @Override
    public Void visitCompoundAssignment(CompoundAssignmentTree tree, Void nothing) {
        boolean divides = tree.getKind() == Tree.Kind.DIVIDE_ASSIGNMENT
            || tree.getKind() == Tree.Kind.REMAINDER_ASSIGNMENT;
        unless(!divides || isConstant(tree.getExpression()), 7, tree, "a divisor");
        unless(typeOf(tree).getKind().isPrimitive(), 10, tree, "texts joined by +");
        return super.visitCompoundAssignment(tree, nothing);
    }

    @Override
    public Void visitLambdaExpression(LambdaExpressionTree tree, Void nothing) {
        unless(false, 2, tree, "a lambda");
        return super.visitLambdaExpression(tree, nothing);
    }

    @Override
    public Void visitMemberReference(MemberReferenceTree tree, Void nothing) {
        unless(false, 2, tree, "a method reference");
        return super.visitMemberReference(tree, nothing);
    }

    @Override
    public Void visitTry(TryTree tree, Void nothing) {
        unless(false, 6, tree, "a try");
        return super.visitTry(tree, nothing);
    }

    @Override
    public Void visitSynchronized(SynchronizedTree tree, Void nothing) {
        unless(false, 6, tree, "synchronized");
        return super.visitSynchronized(tree, nothing);
    }

    @Override
    public Void visitAssert(AssertTree tree, Void nothing) {
        unless(false, 6, tree, "assert");
        return super.visitAssert(tree, nothing);
    }

    private void unless(boolean good, int rule, Tree where, String what) {
        if (!good) {
            faults.add(rule + ": " + what + ", line " + line(where));
        }
    }

    private long line(Tree tree) {
        return lineOf(positions.getStartPosition(unit, tree));
    }

    private long lineOf(long position) {
        return position < 0 ? 0 : unit.getLineMap().getLineNumber(position);
    }

    private TypeMirror typeOf(Tree tree) {
        return trees.getTypeMirror(TreePath.getPath(unit, tree));
    }

    private boolean isOwn(TypeElement type) {
        return type.getQualifiedName().toString().matches(THE_CLASS + "(\\..*)?");
    }

    private boolean mayBeHeld(TypeMirror type) {
        if (type instanceof ArrayType) {
            return ((ArrayType) type).getComponentType().getKind().isPrimitive();
        }
        return type.getKind().isPrimitive()
            || type instanceof DeclaredType && isOwn((TypeElement) ((DeclaredType) type).asElement());
    }

    /** A number written out, or the name of a constant whose value the compiler knows is not zero. */
    private boolean isConstant(ExpressionTree tree) {
        Object value = tree instanceof LiteralTree ? ((LiteralTree) tree).getValue() : null;
        Element element = trees.getElement(TreePath.getPath(unit, tree));
        if (element instanceof VariableElement) {
            value = ((VariableElement) element).getConstantValue();
        }
        return value instanceof Integer && (Integer) value > 0;
    }

    private MethodTree method() {
        for (Tree tree : getCurrentPath()) {
            if (tree instanceof MethodTree) {
                return (MethodTree) tree;
            }
        }
        return null;
    }

    private String methodName() {
        MethodTree method = method();
        return method == null ? "" : method.getName().toString();
    }

    /** In a constructor, or as a field begins. */
    private boolean isMadeOnce() {
        return method() == null || methodName().equals("<init>");
    }

    private void calledHere(Element called) {
        MethodTree method = method();
        if (method != null) {
            Element caller = trees.getElement(TreePath.getPath(unit, method));
            calls.computeIfAbsent(caller, c -> new LinkedHashSet<>()).add(called);
        }
    }

    private int deepest(Element method, Set<Element> open) {
        if (!open.add(method)) {
            unless(false, 8, trees.getTree(method), "a method that comes to itself");
            return 0;
        }
        int most = 0;
        for (Element called : calls.getOrDefault(method, Collections.emptySet())) {
            most = Math.max(most, deepest(called, open));
        }
        open.remove(method);
        return most + 1;
    }
}
