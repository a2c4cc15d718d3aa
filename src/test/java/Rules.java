import com.sun.source.tree.AssertTree;
import com.sun.source.tree.BinaryTree;
import com.sun.source.tree.ClassTree;
import com.sun.source.tree.CompilationUnitTree;
import com.sun.source.tree.CompoundAssignmentTree;
import com.sun.source.tree.ExpressionTree;
import com.sun.source.tree.ForLoopTree;
import com.sun.source.tree.ImportTree;
import com.sun.source.tree.InstanceOfTree;
import com.sun.source.tree.LambdaExpressionTree;
import com.sun.source.tree.LineMap;
import com.sun.source.tree.LiteralTree;
import com.sun.source.tree.MemberReferenceTree;
import com.sun.source.tree.MethodInvocationTree;
import com.sun.source.tree.MethodTree;
import com.sun.source.tree.NewClassTree;
import com.sun.source.tree.SynchronizedTree;
import com.sun.source.tree.ThrowTree;
import com.sun.source.tree.Tree;
import com.sun.source.tree.TryTree;
import com.sun.source.tree.TypeCastTree;
import com.sun.source.tree.VariableTree;
import com.sun.source.tree.WhileLoopTree;
import com.sun.source.util.TreePath;
import com.sun.source.util.TreePathScanner;
import com.sun.source.util.Trees;
import java.util.Map;
import java.util.Set;
import java.util.TreeMap;
import java.util.TreeSet;
import javax.lang.model.element.Element;
import javax.lang.model.element.ElementKind;
import javax.lang.model.element.Modifier;
import javax.lang.model.element.VariableElement;
import javax.lang.model.type.TypeKind;

/** Goes through the compiler's tree of the class, rule by rule; takes down who calls whom. */
final class Rules extends TreePathScanner<Void, Void> {
    private static final int MOST_LINES_OF_A_METHOD = 60;
    private static final Set<String> LIBRARY = Set.of("java.lang.Math.max", "java.lang.Math.min", "java.lang.System.arraycopy",
            "java.lang.Object.<init>");
    private static final Set<String> EXCEPTIONS = Set.of("IllegalArgumentException", "IllegalStateException",
            "IndexOutOfBoundsException", "NoSuchElementException");
    private static final Set<String> NUMBERS = Set.of("int", "long", "boolean", "double", "byte");

    final Map<String, Set<String>> calls = new TreeMap<>();
    final Set<String> divisors = new TreeSet<>();
    int classes;
    private final Check check;
    private final CompilationUnitTree unit;
    private final Trees trees;
    private final ClassTree face;
    private final Set<String> faceNames = new TreeSet<>();
    private final Set<String> classNames = new TreeSet<>();

    Rules(Check check, CompilationUnitTree unit, Trees trees, ClassTree face) {
        this.check = check;
        this.unit = unit;
        this.trees = trees;
        this.face = face;
        for (Tree member : face.getMembers()) {
            if (member instanceof MethodTree && ((MethodTree) member).getModifiers().getFlags().contains(Modifier.PUBLIC)) {
                faceNames.add(((MethodTree) member).getName().toString());
            }
            if (member instanceof ClassTree) {
                classNames.add(((ClassTree) member).getSimpleName().toString());
            }
        }
        faceNames.remove("<init>");
    }

    private void fault(String rule, Tree tree) {
        check.same(rule, "line " + unit.getLineMap().getLineNumber(start(tree)) + ": " + tree, "absent");
    }

    private long start(Tree tree) {
        return trees.getSourcePositions().getStartPosition(unit, tree);
    }

    private Element element(Tree tree) {
        return trees.getElement(new TreePath(getCurrentPath(), tree));
    }

    private MethodTree method() {
        for (TreePath path = getCurrentPath(); path != null; path = path.getParentPath()) {
            if (path.getLeaf() instanceof MethodTree) {
                return (MethodTree) path.getLeaf();
            }
        }
        return null;
    }

    // ---- classes, members and types

    @Override
    public Void visitImport(ImportTree tree, Void none) {
        check.same("rule 4: imports", tree.getQualifiedIdentifier().toString(), "java.util.NoSuchElementException");
        return super.visitImport(tree, none);
    }

    @Override
    public Void visitClass(ClassTree tree, Void none) {
        classes++;
        Set<Modifier> flags = tree.getModifiers().getFlags();
        if (tree != face) {
            check.is("rule 2: " + tree.getSimpleName() + " is private and static",
                    flags.contains(Modifier.PRIVATE) && flags.contains(Modifier.STATIC), true);
        }
        int fields = 0;
        for (Tree member : tree.getMembers()) {
            if (member instanceof VariableTree
                    && !((VariableTree) member).getModifiers().getFlags().contains(Modifier.STATIC)) {
                fields++;
            }
            if (member.getKind() == Tree.Kind.BLOCK) {
                fault("rule 5: initialiser block", member);
            }
        }
        check.is("rule 11: some twenty fields in " + tree.getSimpleName(), fields <= 20, true);
        return super.visitClass(tree, none);
    }

    @Override
    public Void visitMethod(MethodTree tree, Void none) {
        LineMap lines = unit.getLineMap();
        long length = lines.getLineNumber(trees.getSourcePositions().getEndPosition(unit, tree)) - lines.getLineNumber(start(tree));
        check.is("rule 11: " + tree.getName() + " is short", length <= MOST_LINES_OF_A_METHOD, true);
        check.is("rule 11: " + tree.getName() + ", seven parameters at most", tree.getParameters().size() <= 7, true);
        boolean inFace = getCurrentPath().getParentPath().getLeaf() == face;
        if (!inFace || !tree.getModifiers().getFlags().contains(Modifier.PUBLIC)) {
            check.is("rule 1: " + tree.getName() + " is no name of the face", faceNames.contains(tree.getName().toString()), false);
        }
        check.is("rule 6: " + tree.getName() + " is no equals, hashCode or toString",
                Set.of("equals", "hashCode", "toString").contains(tree.getName().toString()), false);
        return super.visitMethod(tree, none);
    }

    @Override
    public Void visitVariable(VariableTree tree, Void none) {
        Element element = trees.getElement(getCurrentPath());
        if (element.getModifiers().contains(Modifier.STATIC)) {
            Object constant = ((VariableElement) element).getConstantValue();
            check.is("rule 5: " + tree.getName() + " is a constant", constant != null, true);
        }
        String type = tree.getType().toString();
        String single = type.endsWith("[]") ? type.substring(0, type.length() - 2) : type;
        check.is("rule 3: " + type + " " + tree.getName(), NUMBERS.contains(single) || classNames.contains(single), true);
        return super.visitVariable(tree, none);
    }

    // ---- calls and exceptions

    private void called(Element element, Tree tree) {
        String owner = element.getEnclosingElement().toString();
        String name = owner + "." + element.getSimpleName();
        if (owner.startsWith("java.")) {
            check.is("rule 4: " + name, LIBRARY.contains(name), true);
        }
        MethodTree from = method();
        if (from != null) {
            Element caller = trees.getElement(trees.getPath(unit, from));
            calls.computeIfAbsent(caller.getEnclosingElement() + "." + caller, n -> new TreeSet<>())
                    .add(owner + "." + element);
        }
    }

    @Override
    public Void visitMethodInvocation(MethodInvocationTree tree, Void none) {
        called(element(tree.getMethodSelect()), tree);
        return super.visitMethodInvocation(tree, none);
    }

    @Override
    public Void visitNewClass(NewClassTree tree, Void none) {
        String name = tree.getIdentifier().toString();
        if (!EXCEPTIONS.contains(name)) {
            check.is("rule 2: new " + name, classNames.contains(name) && tree.getClassBody() == null, true);
            called(trees.getElement(getCurrentPath()), tree);
        } else {
            check.is("rule 6: new " + name + " is thrown at once",
                    getCurrentPath().getParentPath().getLeaf() instanceof ThrowTree, true);
            boolean written = tree.getArguments().size() == 1 && tree.getArguments().get(0) instanceof LiteralTree;
            check.is("rule 6: new " + name + " has a written text", written, true);
        }
        return super.visitNewClass(tree, none);
    }

    @Override
    public Void visitThrow(ThrowTree tree, Void none) {
        MethodTree method = method();
        boolean known = tree.getExpression() instanceof NewClassTree && method != null
                && method.getModifiers().getFlags().contains(Modifier.PUBLIC);
        String thrown = known ? ((NewClassTree) tree.getExpression()).getIdentifier().toString() : "another one";
        check.is("rule 6: " + thrown + " is told by the head of a method of the face",
                known && method.getReturnType() != null && method.getThrows().toString().contains(thrown), true);
        return super.visitThrow(tree, none);
    }

    // ---- what is looked at before it is used

    /** A divisor of whole numbers is a constant that is not 0, or one of those that are told in LanguageTest. */
    @Override
    public Void visitBinary(BinaryTree tree, Void none) {
        if (tree.getKind() == Tree.Kind.DIVIDE || tree.getKind() == Tree.Kind.REMAINDER) {
            Element divisor = element(tree.getRightOperand());
            Object constant = divisor instanceof VariableElement ? ((VariableElement) divisor).getConstantValue() : null;
            if (!(constant instanceof Integer) || (Integer) constant == 0) {
                divisors.add(tree.getRightOperand().toString());
            }
        }
        return super.visitBinary(tree, none);
    }

    @Override
    public Void visitCompoundAssignment(CompoundAssignmentTree tree, Void none) {
        if (tree.getKind() == Tree.Kind.DIVIDE_ASSIGNMENT || tree.getKind() == Tree.Kind.REMAINDER_ASSIGNMENT) {
            divisors.add(tree.getExpression().toString());
        }
        return super.visitCompoundAssignment(tree, none);
    }

    @Override
    public Void visitTypeCast(TypeCastTree tree, Void none) {
        TypeKind kind = trees.getTypeMirror(new TreePath(getCurrentPath(), tree.getType())).getKind();
        check.is("page: a cast to a number, " + tree, kind.isPrimitive(), true);
        return super.visitTypeCast(tree, none);
    }

    // ---- what is left out

    @Override
    public Void visitForLoop(ForLoopTree tree, Void none) {
        check.is("rule 9: a loop with an end, " + tree.getCondition(), tree.getCondition() != null, true);
        return super.visitForLoop(tree, none);
    }

    @Override
    public Void visitWhileLoop(WhileLoopTree tree, Void none) {
        ExpressionTree condition = tree.getCondition();
        check.is("rule 9: a loop with a bound, " + condition, condition.toString().contains("<"), true);
        return super.visitWhileLoop(tree, none);
    }

    @Override
    public Void visitTry(TryTree tree, Void none) {
        fault("page: nothing is caught", tree);
        return super.visitTry(tree, none);
    }

    @Override
    public Void visitLambdaExpression(LambdaExpressionTree tree, Void none) {
        fault("rule 2: lambda", tree);
        return super.visitLambdaExpression(tree, none);
    }

    @Override
    public Void visitMemberReference(MemberReferenceTree tree, Void none) {
        fault("rule 2: method reference", tree);
        return super.visitMemberReference(tree, none);
    }

    @Override
    public Void visitSynchronized(SynchronizedTree tree, Void none) {
        fault("rule 6: synchronized", tree);
        return super.visitSynchronized(tree, none);
    }

    @Override
    public Void visitAssert(AssertTree tree, Void none) {
        fault("rule 6: assert", tree);
        return super.visitAssert(tree, none);
    }

    @Override
    public Void visitInstanceOf(InstanceOfTree tree, Void none) {
        fault("page: no object's class is asked for", tree);
        return super.visitInstanceOf(tree, none);
    }
}
