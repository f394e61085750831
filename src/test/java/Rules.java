import com.sun.source.tree.AssertTree;
import com.sun.source.tree.BinaryTree;
import com.sun.source.tree.BlockTree;
import com.sun.source.tree.ClassTree;
import com.sun.source.tree.CompilationUnitTree;
import com.sun.source.tree.CompoundAssignmentTree;
import com.sun.source.tree.DoWhileLoopTree;
import com.sun.source.tree.ExpressionTree;
import com.sun.source.tree.ForLoopTree;
import com.sun.source.tree.ImportTree;
import com.sun.source.tree.LambdaExpressionTree;
import com.sun.source.tree.LiteralTree;
import com.sun.source.tree.MemberReferenceTree;
import com.sun.source.tree.MethodInvocationTree;
import com.sun.source.tree.MethodTree;
import com.sun.source.tree.NewArrayTree;
import com.sun.source.tree.NewClassTree;
import com.sun.source.tree.SynchronizedTree;
import com.sun.source.tree.ThrowTree;
import com.sun.source.tree.Tree;
import com.sun.source.tree.TryTree;
import com.sun.source.tree.TypeCastTree;
import com.sun.source.tree.VariableTree;
import com.sun.source.tree.WhileLoopTree;
import com.sun.source.util.JavacTask;
import com.sun.source.util.TreePath;
import com.sun.source.util.TreePathScanner;
import com.sun.source.util.TreeScanner;
import com.sun.source.util.Trees;
import java.io.IOException;
import java.net.URI;
import java.util.ArrayList;
import java.util.List;
import java.util.Set;
import javax.lang.model.element.Element;
import javax.lang.model.element.ElementKind;
import javax.lang.model.element.ExecutableElement;
import javax.lang.model.element.Modifier;
import javax.lang.model.element.TypeElement;
import javax.lang.model.element.VariableElement;
import javax.lang.model.type.ArrayType;
import javax.lang.model.type.TypeKind;
import javax.lang.model.type.TypeMirror;
import javax.tools.JavaFileObject;
import javax.tools.SimpleJavaFileObject;
import javax.tools.ToolProvider;

/**
 * What a source breaks of the rules of ../shared/LANGUAGE.md, each told as "rule: what, line". Where the class does with
 * less than a rule leaves, the lesser part is asked for: no doubles, no lists, nothing made outside constructors.
 */
final class Rules extends TreePathScanner<Void, Void> {
    private static final int MOST_LINES = 60, MOST_PARAMETERS = 7, MOST_CLASSES = 12, MOST_FIELDS = 20, DEEPEST = 8;
    private static final Set<String> LIBRARY = Set.of("java.lang.String.length", "java.lang.String.charAt",
        "java.lang.System.arraycopy", "java.util.Arrays.fill");
    private static final Set<String> NUMBERS = Set.of("java.lang.Integer", "java.lang.Long", "java.lang.Math");
    private static final Set<String> OBJECTS_OWN = Set.of("equals", "hashCode", "toString");
    private static final Set<Tree.Kind> ORDERINGS = Set.of(Tree.Kind.LESS_THAN, Tree.Kind.LESS_THAN_EQUAL,
        Tree.Kind.GREATER_THAN, Tree.Kind.GREATER_THAN_EQUAL);
    private static final Set<Tree.Kind> LIKENESSES = Set.of(Tree.Kind.EQUAL_TO, Tree.Kind.NOT_EQUAL_TO);
    private static final Set<Tree.Kind> DIVISIONS = Set.of(Tree.Kind.DIVIDE, Tree.Kind.REMAINDER,
        Tree.Kind.DIVIDE_ASSIGNMENT, Tree.Kind.REMAINDER_ASSIGNMENT);

    private final Trees trees;
    private final CompilationUnitTree unit;
    private final List<String> broken = new ArrayList<>();
    private final CallDepth depth = new CallDepth();
    private int classes;

    private Rules(Trees trees, CompilationUnitTree unit) {
        this.trees = trees;
        this.unit = unit;
    }

    static List<String> brokenIn(String source) throws IOException {
        JavaFileObject file = new SimpleJavaFileObject(URI.create("string:///HeelDance.java"), JavaFileObject.Kind.SOURCE) {
            @Override
            public CharSequence getCharContent(boolean ignored) {
                return source;
            }
        };
        List<String> errors = new ArrayList<>();
        JavacTask task = (JavacTask) ToolProvider.getSystemJavaCompiler().getTask(null, null,
            d -> errors.add(d.getKind() + ": " + d.getMessage(null)), List.of("-proc:none", "--release", "17"), null, List.of(file));
        CompilationUnitTree unit = task.parse().iterator().next();
        task.analyze();
        if (!errors.isEmpty()) return errors;
        Rules rules = new Rules(Trees.instance(task), unit);
        rules.scan(unit, null);
        rules.whole();
        return rules.broken;
    }

    private void whole() {
        if (classes > MOST_CLASSES) tell(11, "too many classes", unit);
        for (String loop : depth.loops()) {
            broken.add("8: " + loop);
        }
        if (depth.deepest() > DEEPEST) broken.add("11: calls go " + depth.deepest() + " deep");
    }

    private void tell(int rule, String what, Tree where) {
        long line = unit.getLineMap().getLineNumber(trees.getSourcePositions().getStartPosition(unit, where));
        broken.add(rule + ": " + what + ", line " + line);
    }

    private void unless(boolean kept, int rule, String what, Tree where) {
        if (!kept) tell(rule, what, where);
    }

    private Element element(Tree tree) {
        return trees.getElement(new TreePath(getCurrentPath(), tree));
    }

    private TypeMirror type(Tree tree) {
        return trees.getTypeMirror(new TreePath(getCurrentPath(), tree));
    }

    // ---- the file, its classes and members

    @Override
    public Void visitCompilationUnit(CompilationUnitTree tree, Void v) {
        unless(tree.getPackage() == null, 1, "a package", tree);
        unless(tree.getTypeDecls().size() == 1, 1, "more than one class outside", tree);
        return super.visitCompilationUnit(tree, v);
    }

    @Override
    public Void visitImport(ImportTree tree, Void v) {
        unless(tree.getQualifiedIdentifier().toString().equals("java.util.Arrays"), 4, "import of another class", tree);
        return null;
    }

    @Override
    public Void visitClass(ClassTree tree, Void v) {
        Set<Modifier> flags = tree.getModifiers().getFlags();
        Tree.Kind around = getCurrentPath().getParentPath().getLeaf().getKind();
        classes++;
        if (around == Tree.Kind.COMPILATION_UNIT) {
            unless(flags.equals(Set.of(Modifier.PUBLIC, Modifier.FINAL)), 1, "the class is not public and final", tree);
        } else {
            unless(around == Tree.Kind.CLASS && flags.contains(Modifier.STATIC), 2, "a class that isn't static", tree);
            unless(!flags.contains(Modifier.PUBLIC) && !flags.contains(Modifier.PROTECTED), 1, "a public class inside", tree);
        }
        long fields = tree.getMembers().stream().filter(m -> m instanceof VariableTree f
            && !f.getModifiers().getFlags().contains(Modifier.STATIC)).count();
        unless(fields <= MOST_FIELDS, 11, "too many fields", tree);
        return super.visitClass(tree, v);
    }

    private boolean isOutermost(Element member) {
        return member.getEnclosingElement().getEnclosingElement().getKind() == ElementKind.PACKAGE;
    }

    @Override
    public Void visitMethod(MethodTree tree, Void v) {
        ExecutableElement method = (ExecutableElement) trees.getElement(getCurrentPath());
        Set<Modifier> flags = method.getModifiers();
        if (isOutermost(method)) {
            unless(flags.contains(Modifier.PUBLIC) || flags.contains(Modifier.PRIVATE), 1, "a member that can be seen", tree);
        }
        boolean isFace = isOutermost(method) && flags.contains(Modifier.PUBLIC);
        unless(isFace || !isNameOfFace(method), 1, "a name of the face: " + tree.getName(), tree);
        unless(!OBJECTS_OWN.contains(tree.getName().toString()), 6, "a method of all objects", tree);
        unless(tree.getThrows().isEmpty() && !flags.contains(Modifier.SYNCHRONIZED), 6, "throws, synchronized", tree);
        unless(tree.getParameters().size() <= MOST_PARAMETERS, 11, "too many parameters", tree);
        unless(linesOf(tree) <= MOST_LINES, 11, "too long a method", tree);
        unless(method.getKind() == ElementKind.CONSTRUCTOR || isAllowed(method.getReturnType()), 3, "its answer's type", tree);
        depth.enter(method);
        return super.visitMethod(tree, v);
    }

    private static boolean isNameOfFace(ExecutableElement method) {
        TypeElement outermost = (TypeElement) method.getEnclosingElement();
        while (outermost.getEnclosingElement() instanceof TypeElement around) {
            outermost = around;
        }
        return outermost.getEnclosedElements().stream().anyMatch(m -> m.getKind() == ElementKind.METHOD
            && m.getModifiers().contains(Modifier.PUBLIC) && m.getSimpleName().equals(method.getSimpleName()));
    }

    private long linesOf(Tree tree) {
        long first = trees.getSourcePositions().getStartPosition(unit, tree);
        long last = trees.getSourcePositions().getEndPosition(unit, tree);
        return unit.getLineMap().getLineNumber(last) - unit.getLineMap().getLineNumber(first) + 1;
    }

    @Override
    public Void visitVariable(VariableTree tree, Void v) {
        VariableElement variable = (VariableElement) trees.getElement(getCurrentPath());
        unless(isAllowed(variable.asType()), 3, "the type of " + tree.getName(), tree);
        if (variable.getKind() == ElementKind.FIELD) {
            Set<Modifier> flags = variable.getModifiers();
            boolean isConstant = flags.contains(Modifier.FINAL) && variable.getConstantValue() != null;
            unless(!flags.contains(Modifier.STATIC) || isConstant || isRowWrittenOut(tree), 5, "static " + tree.getName(), tree);
            boolean isFace = flags.contains(Modifier.PUBLIC) && flags.contains(Modifier.STATIC);
            unless(!isOutermost(variable) || isFace || flags.contains(Modifier.PRIVATE), 1, "a field that can be seen", tree);
        }
        return super.visitVariable(tree, v);
    }

    private static boolean isRowWrittenOut(VariableTree tree) {
        return tree.getModifiers().getFlags().contains(Modifier.FINAL) && tree.getInitializer() instanceof NewArrayTree row
            && row.getInitializers() != null;
    }

    private static boolean isAllowed(TypeMirror type) {
        if (type.getKind() == TypeKind.ARRAY) {
            TypeMirror of = ((ArrayType) type).getComponentType();
            return isAllowed(of) && of.getKind() != TypeKind.ARRAY && !of.toString().equals("java.lang.String");
        }
        boolean isNumber = type.getKind().isPrimitive() && type.getKind() != TypeKind.DOUBLE && type.getKind() != TypeKind.FLOAT;
        return isNumber || type.getKind() == TypeKind.VOID || type.toString().equals("java.lang.String")
            || type.toString().startsWith("HeelDance");
    }

    @Override
    public Void visitBlock(BlockTree tree, Void v) {
        unless(!tree.isStatic(), 5, "a static block", tree);
        return super.visitBlock(tree, v);
    }

    // ---- what is called and made

    @Override
    public Void visitMethodInvocation(MethodInvocationTree tree, Void v) {
        ExecutableElement called = (ExecutableElement) element(tree);
        String owner = called.getEnclosingElement().toString();
        // the call of the class above, in each constructor
        boolean isAbove = called.getKind() == ElementKind.CONSTRUCTOR && owner.equals("java.lang.Object");
        if (owner.startsWith("HeelDance")) {
            unless(!isInConstructor(), 12, "a constructor calls a method", tree);
            depth.call(called);
        } else if (!isAbove) {
            unless(isInLibrary(owner, called), 4, owner + "." + called.getSimpleName(), tree);
        }
        return super.visitMethodInvocation(tree, v);
    }

    private static boolean isInLibrary(String owner, ExecutableElement called) {
        String name = called.getSimpleName().toString();
        boolean isWhole = called.getParameters().stream().allMatch(p -> p.asType().getKind() == TypeKind.INT
            || p.asType().getKind() == TypeKind.LONG);
        boolean ofNumbers = NUMBERS.contains(owner) && called.getModifiers().contains(Modifier.STATIC) && isWhole
            && called.getReturnType().getKind().isPrimitive() && !name.endsWith("Exact");
        return ofNumbers || LIBRARY.contains(owner + "." + name);
    }

    private MethodTree methodAround() {
        for (TreePath p = getCurrentPath(); p != null; p = p.getParentPath()) {
            if (p.getLeaf() instanceof MethodTree method) return method;
        }
        return null;
    }

    private boolean isInConstructor() {
        MethodTree method = methodAround();
        return method != null && method.getName().contentEquals("<init>");
    }

    private boolean isMadeOnce() {
        return methodAround() == null || isInConstructor();
    }

    @Override
    public Void visitNewClass(NewClassTree tree, Void v) {
        unless(tree.getClassBody() == null, 2, "a class without a name", tree);
        unless(type(tree).toString().startsWith("HeelDance"), 4, "new " + type(tree), tree);
        unless(isMadeOnce(), 12, "an object made by a call", tree);
        return super.visitNewClass(tree, v);
    }

    @Override
    public Void visitNewArray(NewArrayTree tree, Void v) {
        unless(isAllowed(type(tree)), 3, "an array of " + type(tree), tree);
        unless(isMadeOnce(), 12, "an array made by a call", tree);
        return super.visitNewArray(tree, v);
    }

    @Override
    public Void visitLiteral(LiteralTree tree, Void v) {
        if (tree.getValue() instanceof String s) {
            unless(s.chars().allMatch(c -> c >= 1 && c <= 127), 4, "a sign above 127", tree);
        }
        return super.visitLiteral(tree, v);
    }

    // ---- what is said

    @Override
    public Void visitLambdaExpression(LambdaExpressionTree tree, Void v) {
        tell(2, "a lambda", tree);
        return null;
    }

    @Override
    public Void visitMemberReference(MemberReferenceTree tree, Void v) {
        tell(2, "a method reference", tree);
        return null;
    }

    @Override
    public Void visitThrow(ThrowTree tree, Void v) {
        tell(6, "throw", tree);
        return super.visitThrow(tree, v);
    }

    @Override
    public Void visitTry(TryTree tree, Void v) {
        tell(6, "try", tree);
        return super.visitTry(tree, v);
    }

    @Override
    public Void visitSynchronized(SynchronizedTree tree, Void v) {
        tell(6, "synchronized", tree);
        return super.visitSynchronized(tree, v);
    }

    @Override
    public Void visitAssert(AssertTree tree, Void v) {
        tell(6, "assert", tree);
        return super.visitAssert(tree, v);
    }

    @Override
    public Void visitTypeCast(TypeCastTree tree, Void v) {
        unless(type(tree.getType()).getKind().isPrimitive(), 6, "a cast of an object", tree);
        return super.visitTypeCast(tree, v);
    }

    @Override
    public Void visitBinary(BinaryTree tree, Void v) {
        boolean areNumbers = type(tree.getLeftOperand()).getKind().isPrimitive()
            && type(tree.getRightOperand()).getKind().isPrimitive();
        unless(!LIKENESSES.contains(tree.getKind()) || areNumbers, 6, "objects compared", tree);
        unless(tree.getKind() != Tree.Kind.PLUS || areNumbers, 10, "texts joined by +", tree);
        if (DIVISIONS.contains(tree.getKind())) divisor(tree.getRightOperand());
        return super.visitBinary(tree, v);
    }

    @Override
    public Void visitCompoundAssignment(CompoundAssignmentTree tree, Void v) {
        unless(type(tree.getVariable()).getKind().isPrimitive(), 10, "texts joined by +=", tree);
        if (DIVISIONS.contains(tree.getKind())) divisor(tree.getExpression());
        return super.visitCompoundAssignment(tree, v);
    }

    /** A number written out, a constant, or one that the same method compares with another. */
    private void divisor(ExpressionTree by) {
        Element named = element(by);
        Object constant = by instanceof LiteralTree number ? number.getValue()
            : named instanceof VariableElement variable ? variable.getConstantValue() : null;
        boolean isTested = constant instanceof Number n ? n.longValue() != 0 : methodCompares(by.toString());
        unless(isTested, 7, "a divisor that is not looked at", by);
    }

    private boolean methodCompares(String expression) {
        boolean[] found = {false};
        new TreeScanner<Void, Void>() {
            @Override
            public Void visitBinary(BinaryTree tree, Void v) {
                boolean compares = ORDERINGS.contains(tree.getKind()) || LIKENESSES.contains(tree.getKind());
                found[0] |= compares && tree.getLeftOperand().toString().equals(expression);
                return super.visitBinary(tree, v);
            }
        }.scan(methodAround(), null);
        return found[0];
    }

    // ---- loops

    @Override
    public Void visitForLoop(ForLoopTree tree, Void v) {
        bounded(tree.getCondition(), tree);
        return super.visitForLoop(tree, v);
    }

    @Override
    public Void visitWhileLoop(WhileLoopTree tree, Void v) {
        bounded(tree.getCondition(), tree);
        return super.visitWhileLoop(tree, v);
    }

    @Override
    public Void visitDoWhileLoop(DoWhileLoopTree tree, Void v) {
        bounded(tree.getCondition(), tree);
        return super.visitDoWhileLoop(tree, v);
    }

    /** A bound, or bounds all of which must hold: one behind an 'or' would be none. */
    private void bounded(ExpressionTree condition, Tree loop) {
        boolean[] found = {false};
        new TreeScanner<Void, Void>() {
            @Override
            public Void visitBinary(BinaryTree tree, Void v) {
                found[0] |= ORDERINGS.contains(tree.getKind());
                return tree.getKind() == Tree.Kind.CONDITIONAL_OR ? null : super.visitBinary(tree, v);
            }
        }.scan(condition, null);
        unless(found[0], 9, "a loop without a bound", loop);
    }
}
