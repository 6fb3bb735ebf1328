import com.sun.source.tree.ArrayAccessTree;
import com.sun.source.tree.AssertTree;
import com.sun.source.tree.AssignmentTree;
import com.sun.source.tree.BinaryTree;
import com.sun.source.tree.BlockTree;
import com.sun.source.tree.ClassTree;
import com.sun.source.tree.CompilationUnitTree;
import com.sun.source.tree.CompoundAssignmentTree;
import com.sun.source.tree.DoWhileLoopTree;
import com.sun.source.tree.ExpressionTree;
import com.sun.source.tree.ForLoopTree;
import com.sun.source.tree.IdentifierTree;
import com.sun.source.tree.ImportTree;
import com.sun.source.tree.InstanceOfTree;
import com.sun.source.tree.LambdaExpressionTree;
import com.sun.source.tree.LiteralTree;
import com.sun.source.tree.MemberReferenceTree;
import com.sun.source.tree.MemberSelectTree;
import com.sun.source.tree.MethodInvocationTree;
import com.sun.source.tree.MethodTree;
import com.sun.source.tree.NewArrayTree;
import com.sun.source.tree.NewClassTree;
import com.sun.source.tree.SynchronizedTree;
import com.sun.source.tree.ThrowTree;
import com.sun.source.tree.Tree;
import com.sun.source.tree.TryTree;
import com.sun.source.tree.TypeCastTree;
import com.sun.source.tree.UnaryTree;
import com.sun.source.tree.VariableTree;
import com.sun.source.tree.WhileLoopTree;
import com.sun.source.util.JavacTask;
import com.sun.source.util.TreePath;
import com.sun.source.util.TreePathScanner;
import com.sun.source.util.TreeScanner;
import com.sun.source.util.Trees;
import java.io.IOException;
import java.net.URI;
import java.util.ArrayList;
import java.util.List;
import java.util.Map;
import java.util.Set;
import java.util.TreeMap;
import java.util.TreeSet;
import javax.lang.model.element.Element;
import javax.lang.model.element.ElementKind;
import javax.lang.model.element.Modifier;
import javax.lang.model.element.VariableElement;
import javax.lang.model.type.ArrayType;
import javax.lang.model.type.DeclaredType;
import javax.lang.model.type.TypeKind;
import javax.lang.model.type.TypeMirror;
import javax.tools.JavaFileObject;
import javax.tools.SimpleJavaFileObject;
import javax.tools.ToolProvider;

/**
 * What in a program breaks LANGUAGE.md, by the compiler's own tree of it. It is stricter than the
 * rules where the class needs less than they leave: whoever needs more looks the rule up first.
 */
final class LanguageRules extends TreePathScanner<Void, Void> {
    private static final Set<String> LIBRARY = Set.of("Integer.bitCount", "System.arraycopy");
    private static final Set<String> THROWN = Set.of(
            "IndexOutOfBoundsException", "IllegalArgumentException", "IllegalStateException");
    private static final Set<Tree.Kind> STEPS = Set.of(Tree.Kind.PREFIX_INCREMENT, Tree.Kind.PREFIX_DECREMENT,
            Tree.Kind.POSTFIX_INCREMENT, Tree.Kind.POSTFIX_DECREMENT);
    private static final int MOST_CLASSES = 12;
    private static final int MOST_FIELDS = 20;
    private static final int MOST_PARAMETERS = 7;
    private static final int MOST_LINES = 60;
    private static final int DEEPEST = 8;

    private final Trees trees;
    private final CompilationUnitTree unit;
    private final List<String> faults = new ArrayList<>();
    private final Map<String, Set<String>> calls = new TreeMap<>();
    private int classes = 0;

    private LanguageRules(Trees trees, CompilationUnitTree unit) {
        this.trees = trees;
        this.unit = unit;
    }

    /** Each fault with its rule and line; a text that is no Java is a fault itself. */
    static List<String> faultsOf(String program) throws IOException {
        JavaFileObject file = new SimpleJavaFileObject(URI.create("string:///BulbShapes.java"),
                JavaFileObject.Kind.SOURCE) {
            @Override
            public CharSequence getCharContent(boolean ignoresErrors) {
                return program;
            }
        };
        List<String> errors = new ArrayList<>();
        JavacTask task = (JavacTask) ToolProvider.getSystemJavaCompiler().getTask(null, null,
                found -> errors.add("no Java: " + found), List.of("-proc:none"), null, List.of(file));
        CompilationUnitTree unit = task.parse().iterator().next();
        task.analyze();
        if (!errors.isEmpty()) {
            return errors;
        }
        LanguageRules rules = new LanguageRules(Trees.instance(task), unit);
        rules.scan(unit, null);
        rules.lookAtCalls();
        return rules.faults;
    }

    private void fault(int rule, Tree tree, String told) {
        long start = trees.getSourcePositions().getStartPosition(unit, tree);
        faults.add("rule " + rule + ", line " + unit.getLineMap().getLineNumber(start) + ": " + told);
    }

    private Element element() {
        return trees.getElement(getCurrentPath());
    }

    private Element elementOf(Tree tree) {
        return trees.getElement(TreePath.getPath(unit, tree));
    }

    private boolean isOwn(Element element) {
        return trees.getPath(element) != null;
    }

    /** The method that holds what is looked at, null in the initialiser of a field. */
    private MethodTree method() {
        for (TreePath path = getCurrentPath(); path != null; path = path.getParentPath()) {
            if (path.getLeaf() instanceof MethodTree) {
                return (MethodTree) path.getLeaf();
            }
        }
        return null;
    }

    /** Where an object may be made that stays: with the object that holds it. */
    private boolean isInConstruction() {
        MethodTree method = method();
        return method == null || method.getReturnType() == null;
    }

    // ---- rules 1, 2, 4, 13: what the file is made of

    @Override
    public Void visitCompilationUnit(CompilationUnitTree tree, Void none) {
        if (tree.getPackage() != null) {
            fault(1, tree, "a package line");
        }
        return super.visitCompilationUnit(tree, none);
    }

    @Override
    public Void visitImport(ImportTree tree, Void none) {
        fault(4, tree, tree.toString());
        return null;
    }

    @Override
    public Void visitLambdaExpression(LambdaExpressionTree tree, Void none) {
        fault(2, tree, "a lambda");
        return super.visitLambdaExpression(tree, none);
    }

    @Override
    public Void visitMemberReference(MemberReferenceTree tree, Void none) {
        fault(2, tree, "a method reference");
        return super.visitMemberReference(tree, none);
    }

    @Override
    public Void visitIdentifier(IdentifierTree tree, Void none) {
        dueKnownType(tree);
        return super.visitIdentifier(tree, none);
    }

    @Override
    public Void visitMemberSelect(MemberSelectTree tree, Void none) {
        dueKnownType(tree);
        return super.visitMemberSelect(tree, none);
    }

    /** Also rule 13: no class of the library that knows clock, chance, files, net or threads is named. */
    private void dueKnownType(Tree tree) {
        Element element = element();
        if (element == null || !element.getKind().isClass() && !element.getKind().isInterface()) {
            return;
        }
        String name = element.getSimpleName().toString();
        if (!isOwn(element) && !THROWN.contains(name) && !Set.of("Integer", "System", "String").contains(name)) {
            fault(4, tree, "the class " + name);
        }
    }

    // ---- rules 3, 5, 11: classes, fields, types

    @Override
    public Void visitClass(ClassTree tree, Void none) {
        classes++;
        if (classes > MOST_CLASSES) {
            fault(11, tree, "more than " + MOST_CLASSES + " classes");
        }
        int fields = 0;
        for (Tree member : tree.getMembers()) {
            boolean isField = member instanceof VariableTree;
            fields += isField && !isStatic((VariableTree) member) ? 1 : 0;
            if (member instanceof BlockTree && ((BlockTree) member).isStatic()) {
                fault(5, member, "a static initialiser block");
            }
        }
        if (fields > MOST_FIELDS) {
            fault(11, tree, "more than " + MOST_FIELDS + " fields in " + tree.getSimpleName());
        }
        return super.visitClass(tree, none);
    }

    private static boolean isStatic(VariableTree tree) {
        return tree.getModifiers().getFlags().contains(Modifier.STATIC);
    }

    @Override
    public Void visitVariable(VariableTree tree, Void none) {
        TypeMirror type = element().asType();
        if (!isAllowed(type)) {
            fault(3, tree, "the type " + type);
        }
        return super.visitVariable(tree, none);
    }

    private boolean isAllowed(TypeMirror type) {
        if (type.getKind() == TypeKind.ARRAY) {
            TypeMirror part = ((ArrayType) type).getComponentType();
            return part.getKind().isPrimitive() || part.getKind() == TypeKind.DECLARED && isAllowed(part);
        }
        if (type.getKind() == TypeKind.DECLARED) {
            Element element = ((DeclaredType) type).asElement();
            return isOwn(element) || element.getSimpleName().contentEquals("String");
        }
        return type.getKind().isPrimitive();
    }

    @Override
    public Void visitAssignment(AssignmentTree tree, Void none) {
        dueNoConstant(tree.getVariable());
        return super.visitAssignment(tree, none);
    }

    @Override
    public Void visitCompoundAssignment(CompoundAssignmentTree tree, Void none) {
        dueNoConstant(tree.getVariable());
        boolean divides = tree.getKind() == Tree.Kind.DIVIDE_ASSIGNMENT
                || tree.getKind() == Tree.Kind.REMAINDER_ASSIGNMENT;
        if (divides) {
            dueNotZero(tree, tree.getExpression());
        }
        return super.visitCompoundAssignment(tree, none);
    }

    @Override
    public Void visitUnary(UnaryTree tree, Void none) {
        if (STEPS.contains(tree.getKind())) {
            dueNoConstant(tree.getExpression());
        }
        return super.visitUnary(tree, none);
    }

    /** An array that is a constant may not be written into. */
    private void dueNoConstant(ExpressionTree target) {
        if (target instanceof ArrayAccessTree) {
            Element array = elementOf(((ArrayAccessTree) target).getExpression());
            if (array != null && array.getModifiers().contains(Modifier.STATIC)) {
                fault(5, target, target + " is changed");
            }
        }
    }

    // ---- rule 6: exceptions

    @Override
    public Void visitTry(TryTree tree, Void none) {
        fault(6, tree, "a try");
        return super.visitTry(tree, none);
    }

    @Override
    public Void visitSynchronized(SynchronizedTree tree, Void none) {
        fault(6, tree, "a synchronized block");
        return super.visitSynchronized(tree, none);
    }

    @Override
    public Void visitAssert(AssertTree tree, Void none) {
        fault(6, tree, "an assert");
        return super.visitAssert(tree, none);
    }

    @Override
    public Void visitThrow(ThrowTree tree, Void none) {
        if (isInConstruction()) {
            fault(6, tree, "a throw in a constructor");
        }
        ExpressionTree thrown = tree.getExpression();
        if (!(thrown instanceof NewClassTree) || !isPlain((NewClassTree) thrown)) {
            fault(6, tree, tree.toString());
        }
        return super.visitThrow(tree, none);
    }

    private static boolean isPlain(NewClassTree made) {
        for (ExpressionTree argument : made.getArguments()) {
            if (!(argument instanceof LiteralTree)) {
                return false;
            }
        }
        return THROWN.contains(made.getIdentifier().toString());
    }

    // ---- rule 7: nothing throws by itself; looks ahead of an index are the runs' to try

    @Override
    public Void visitBinary(BinaryTree tree, Void none) {
        if (tree.getKind() == Tree.Kind.DIVIDE || tree.getKind() == Tree.Kind.REMAINDER) {
            dueNotZero(tree, tree.getRightOperand());
        }
        TypeMirror type = trees.getTypeMirror(getCurrentPath());
        if (tree.getKind() == Tree.Kind.PLUS && type.getKind() == TypeKind.DECLARED) {
            fault(10, tree, "texts joined by +");
        }
        return super.visitBinary(tree, none);
    }

    private void dueNotZero(Tree tree, ExpressionTree divisor) {
        Object value = divisor instanceof LiteralTree ? ((LiteralTree) divisor).getValue() : null;
        Element named = elementOf(divisor);
        if (named instanceof VariableElement) {
            value = ((VariableElement) named).getConstantValue();
        }
        if (!(value instanceof Number) || ((Number) value).doubleValue() == 0.0) {
            fault(7, tree, "the divisor " + divisor + " is no constant but 0");
        }
    }

    @Override
    public Void visitTypeCast(TypeCastTree tree, Void none) {
        if (!trees.getTypeMirror(getCurrentPath()).getKind().isPrimitive()) {
            fault(7, tree, "the cast " + tree);
        }
        return super.visitTypeCast(tree, none);
    }

    @Override
    public Void visitInstanceOf(InstanceOfTree tree, Void none) {
        fault(7, tree, "an instanceof");
        return super.visitInstanceOf(tree, none);
    }

    // ---- rule 9: loops

    @Override
    public Void visitWhileLoop(WhileLoopTree tree, Void none) {
        fault(9, tree, "a while, which has no counter of its own");
        return super.visitWhileLoop(tree, none);
    }

    @Override
    public Void visitDoWhileLoop(DoWhileLoopTree tree, Void none) {
        fault(9, tree, "a do, which has no counter of its own");
        return super.visitDoWhileLoop(tree, none);
    }

    @Override
    public Void visitForLoop(ForLoopTree tree, Void none) {
        boolean isCounted = tree.getInitializer().size() == 1 && tree.getUpdate().size() == 1
                && tree.getInitializer().get(0) instanceof VariableTree && tree.getCondition() != null;
        if (!isCounted) {
            fault(9, tree, "a for without one counter");
            return super.visitForLoop(tree, none);
        }
        String counter = ((VariableTree) tree.getInitializer().get(0)).getName().toString();
        String step = tree.getUpdate().get(0).getExpression().toString();
        boolean goesUp = step.equals(counter + "++");
        if (!goesUp && !step.equals(counter + "--")) {
            fault(9, tree, "the step " + step);
        }
        if (!isBound(tree.getCondition(), counter, goesUp)) {
            fault(9, tree, "no bound for " + counter);
        }
        if (isWritten(tree.getStatement(), counter)) {
            fault(9, tree, counter + " is changed inside");
        }
        return super.visitForLoop(tree, none);
    }

    /** Whether the condition ends the loop by the counter alone, whatever else it asks for. */
    private static boolean isBound(ExpressionTree condition, String counter, boolean goesUp) {
        String[] parts = condition.toString().split(" && ");
        String bound = counter + (goesUp ? " <=? " : " >=? ") + "[\\w.+* -]+";
        for (String part : parts) {
            if (part.matches(bound) && !condition.toString().contains("||")) {
                return true;
            }
        }
        return false;
    }

    private static boolean isWritten(Tree body, String name) {
        boolean[] found = {false};
        new TreeScanner<Void, Void>() {
            @Override
            public Void visitAssignment(AssignmentTree tree, Void none) {
                found[0] |= tree.getVariable().toString().equals(name);
                return super.visitAssignment(tree, none);
            }

            @Override
            public Void visitCompoundAssignment(CompoundAssignmentTree tree, Void none) {
                found[0] |= tree.getVariable().toString().equals(name);
                return super.visitCompoundAssignment(tree, none);
            }

            @Override
            public Void visitUnary(UnaryTree tree, Void none) {
                found[0] |= STEPS.contains(tree.getKind()) && tree.getExpression().toString().equals(name);
                return super.visitUnary(tree, none);
            }
        }.scan(body, null);
        return found[0];
    }

    // ---- rules 4, 8, 11, 12: methods, calls, and what is made

    @Override
    public Void visitMethod(MethodTree tree, Void none) {
        calls.putIfAbsent(told(element()), new TreeSet<>());
        if (tree.getParameters().size() > MOST_PARAMETERS) {
            fault(11, tree, "more than " + MOST_PARAMETERS + " parameters of " + tree.getName());
        }
        long start = trees.getSourcePositions().getStartPosition(unit, tree);
        long end = trees.getSourcePositions().getEndPosition(unit, tree);
        long lines = unit.getLineMap().getLineNumber(Math.max(start, end)) - unit.getLineMap().getLineNumber(start) + 1;
        if (lines > MOST_LINES) {
            fault(11, tree, tree.getName() + " has " + lines + " lines");
        }
        return super.visitMethod(tree, none);
    }

    @Override
    public Void visitMethodInvocation(MethodInvocationTree tree, Void none) {
        Element called = element();
        boolean isOfConstruction = called.getKind() == ElementKind.CONSTRUCTOR;
        if (!isOwn(called) && !isOfConstruction && !LIBRARY.contains(told(called))) {
            fault(4, tree, told(called));
        }
        if (!isOfConstruction) {
            noteCall(called);
        }
        return super.visitMethodInvocation(tree, none);
    }

    @Override
    public Void visitNewClass(NewClassTree tree, Void none) {
        boolean isThrown = getCurrentPath().getParentPath().getLeaf() instanceof ThrowTree;
        if (!isThrown && !isInConstruction()) {
            fault(12, tree, "made by a call: " + tree);
        }
        if (isOwn(element())) {
            noteCall(element());
        }
        return super.visitNewClass(tree, none);
    }

    @Override
    public Void visitNewArray(NewArrayTree tree, Void none) {
        if (!isInConstruction()) {
            fault(12, tree, "made by a call: " + tree);
        }
        return super.visitNewArray(tree, none);
    }

    private void noteCall(Element called) {
        MethodTree method = method();
        String caller = method == null ? "initialisers" : told(elementOf(method));
        calls.computeIfAbsent(caller, name -> new TreeSet<>()).add(told(called));
    }

    private static String told(Element method) {
        return method.getEnclosingElement().getSimpleName() + "." + method.getSimpleName();
    }

    private void lookAtCalls() {
        for (String method : calls.keySet()) {
            int depth = depthOf(method, new ArrayList<>());
            if (depth > DEEPEST) {
                faults.add("rule 11: " + method + " goes " + depth + " calls deep");
            }
        }
    }

    private int depthOf(String method, List<String> open) {
        if (open.contains(method)) {
            faults.add("rule 8: " + method + " calls itself by " + open);
            return 0;
        }
        open.add(method);
        int deepest = 0;
        for (String called : calls.getOrDefault(method, Set.of())) {
            deepest = Math.max(deepest, depthOf(called, open));
        }
        open.remove(method);
        return 1 + deepest;
    }
}
