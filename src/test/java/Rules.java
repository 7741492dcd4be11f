import com.sun.source.tree.ArrayAccessTree;
import com.sun.source.tree.AssertTree;
import com.sun.source.tree.AssignmentTree;
import com.sun.source.tree.BinaryTree;
import com.sun.source.tree.BlockTree;
import com.sun.source.tree.ClassTree;
import com.sun.source.tree.CompilationUnitTree;
import com.sun.source.tree.CompoundAssignmentTree;
import com.sun.source.tree.DoWhileLoopTree;
import com.sun.source.tree.EnhancedForLoopTree;
import com.sun.source.tree.ExpressionStatementTree;
import com.sun.source.tree.ExpressionTree;
import com.sun.source.tree.ForLoopTree;
import com.sun.source.tree.IdentifierTree;
import com.sun.source.tree.ImportTree;
import com.sun.source.tree.LambdaExpressionTree;
import com.sun.source.tree.LiteralTree;
import com.sun.source.tree.MemberReferenceTree;
import com.sun.source.tree.MemberSelectTree;
import com.sun.source.tree.MethodInvocationTree;
import com.sun.source.tree.MethodTree;
import com.sun.source.tree.NewArrayTree;
import com.sun.source.tree.NewClassTree;
import com.sun.source.tree.PackageTree;
import com.sun.source.tree.ParenthesizedTree;
import com.sun.source.tree.SynchronizedTree;
import com.sun.source.tree.ThrowTree;
import com.sun.source.tree.Tree;
import com.sun.source.tree.TryTree;
import com.sun.source.tree.TypeCastTree;
import com.sun.source.tree.UnaryTree;
import com.sun.source.tree.VariableTree;
import com.sun.source.tree.WhileLoopTree;
import com.sun.source.util.TreePath;
import com.sun.source.util.TreePathScanner;
import com.sun.source.util.TreeScanner;
import com.sun.source.util.Trees;
import java.util.ArrayList;
import java.util.HashSet;
import java.util.List;
import java.util.Map;
import java.util.Set;
import java.util.TreeMap;
import java.util.TreeSet;
import javax.lang.model.element.Element;
import javax.lang.model.element.ElementKind;
import javax.lang.model.element.Modifier;
import javax.lang.model.element.TypeElement;
import javax.lang.model.element.VariableElement;
import javax.lang.model.type.ArrayType;
import javax.lang.model.type.TypeKind;
import javax.lang.model.type.TypeMirror;

/**
 * What of the rules of LANGUAGE.md can be seen by reading the source as the compiler does. Where a rule leaves more room
 * than the class needs (loops, objects that methods make, indexes), the narrower form is asked for, as it can be seen.
 */
final class Rules extends TreePathScanner<Void, Void> {
    private static final Set<String> LIBRARY_TYPES = Set.of("java.lang.String", "java.lang.StringBuilder",
            "java.lang.Integer", "java.util.ArrayList", "java.util.List");
    private static final Set<String> LIBRARY_CALLS = Set.of("java.lang.Math.max", "java.lang.Math.min",
            "java.lang.Math.abs", "java.lang.Integer.compare", "java.lang.Integer.bitCount", "java.lang.Long.compare",
            "java.lang.System.arraycopy", "java.util.Arrays.fill", "java.util.Arrays.copyOf",
            "java.util.Arrays.copyOfRange", "java.lang.String.length", "java.lang.String.charAt",
            "java.lang.Object.<init>");
    private static final Set<TypeKind> ROWS_WRITTEN_OUT = Set.of(TypeKind.INT, TypeKind.LONG, TypeKind.CHAR, TypeKind.BYTE);
    private static final int MOST_PARAMETERS = 7, MOST_LINES = 60, MOST_DEPTH = 8, MOST_CLASSES = 12, MOST_FIELDS = 20;

    final List<String> faults = new ArrayList<>();
    private final CompilationUnitTree unit;
    private final Trees trees;
    private final Map<String, Set<String>> calls = new TreeMap<>();
    private int classes = 0;

    Rules(CompilationUnitTree unit, Trees trees) {
        this.unit = unit;
        this.trees = trees;
    }

    private void fault(int rule, String why, Tree tree) {
        long line = unit.getLineMap().getLineNumber(trees.getSourcePositions().getStartPosition(unit, tree));
        faults.add(rule + ": " + why + ", line " + line);
    }

    // ---- rules 1 and 2: the face, the classes inside

    @Override
    public Void visitPackage(PackageTree tree, Void none) {
        fault(1, "a package line", tree);
        return super.visitPackage(tree, none);
    }

    @Override
    public Void visitImport(ImportTree tree, Void none) {
        if (!LIBRARY_TYPES.contains(tree.getQualifiedIdentifier().toString())) {
            fault(4, "an import", tree);
        }
        return super.visitImport(tree, none);
    }

    @Override
    public Void visitClass(ClassTree tree, Void none) {
        Element element = trees.getElement(getCurrentPath());
        boolean isTop = getCurrentPath().getParentPath().getLeaf() == unit;
        if (++classes > MOST_CLASSES) {
            fault(11, "more than twelve classes", tree);
        }
        if (isTop) {
            judgeFace(element, tree);
        } else if (!element.getModifiers().contains(Modifier.STATIC)) {
            fault(2, "a class that is not static", tree);
        } else if (element.getModifiers().contains(Modifier.PUBLIC) || element.getModifiers().contains(Modifier.PROTECTED)) {
            fault(1, "a class inside that is visible", tree);
        }
        long fields = element.getEnclosedElements().stream().filter(part -> part.getKind() == ElementKind.FIELD
                && !part.getModifiers().contains(Modifier.STATIC)).count();
        if (fields > MOST_FIELDS) {
            fault(11, "more than twenty fields", tree);
        }
        return super.visitClass(tree, none);
    }

    private void judgeFace(Element top, ClassTree tree) {
        if (!top.getModifiers().equals(Set.of(Modifier.PUBLIC, Modifier.FINAL))) {
            fault(1, "the class is not public and final alone", tree);
        }
        Set<String> open = new HashSet<>();
        for (Element part : top.getEnclosedElements()) {
            if (part instanceof TypeElement || part.getModifiers().contains(Modifier.PRIVATE)) {
                continue;
            }
            open.add(part.getSimpleName().toString());
            if (!part.getModifiers().contains(Modifier.PUBLIC)) {
                fault(1, part + " is neither public nor private", tree);
            }
        }
        for (Element part : top.getEnclosedElements()) {
            if (part.getKind() == ElementKind.METHOD && part.getModifiers().contains(Modifier.PRIVATE)
                    && open.contains(part.getSimpleName().toString())) {
                fault(1, "a private method bears the name of a public one: " + part, tree);
            }
        }
    }

    @Override
    public Void visitLambdaExpression(LambdaExpressionTree tree, Void none) {
        fault(2, "a lambda", tree);
        return super.visitLambdaExpression(tree, none);
    }

    @Override
    public Void visitMemberReference(MemberReferenceTree tree, Void none) {
        fault(2, "a method reference", tree);
        return super.visitMemberReference(tree, none);
    }

    // ---- rules 3 and 5: types and static fields

    @Override
    public Void visitVariable(VariableTree tree, Void none) {
        VariableElement element = (VariableElement) trees.getElement(getCurrentPath());
        if (!isAllowed(element.asType())) {
            fault(3, "the type " + element.asType(), tree);
        }
        if (element.getKind() == ElementKind.FIELD && element.getModifiers().contains(Modifier.STATIC)) {
            judgeStatic(element, tree);
        }
        return super.visitVariable(tree, none);
    }

    private void judgeStatic(VariableElement element, VariableTree tree) {
        if (!element.getModifiers().contains(Modifier.FINAL)) {
            fault(5, "a static field that is not final", tree);
        }
        boolean isRow = element.asType() instanceof ArrayType row
                && ROWS_WRITTEN_OUT.contains(row.getComponentType().getKind())
                && tree.getInitializer() instanceof NewArrayTree made && made.getInitializers() != null;
        if (element.getConstantValue() == null && !isRow) {
            fault(5, "a static field that is no constant", tree);
        }
    }

    @Override
    public Void visitBlock(BlockTree tree, Void none) {
        if (tree.isStatic()) {
            fault(5, "a static initialiser", tree);
        }
        return super.visitBlock(tree, none);
    }

    private boolean isAllowed(TypeMirror type) {
        if (!(type instanceof ArrayType row)) {
            return type.getKind().isPrimitive() || isOwn(type) || LIBRARY_TYPES.contains(rawName(type));
        }
        TypeMirror of = row.getComponentType();
        if (of instanceof ArrayType inner) {
            return inner.getComponentType().getKind().isPrimitive();
        }
        return of.getKind().isPrimitive() || isOwn(of);
    }

    private static boolean isOwn(TypeMirror type) {
        return rawName(type).startsWith("MergedOutline");
    }

    private static String rawName(TypeMirror type) {
        return type.toString().replaceAll("<.*", "");
    }

    // ---- rules 4, 8 and 11: calls

    @Override
    public Void visitMethod(MethodTree tree, Void none) {
        calls.computeIfAbsent(nameOf(trees.getElement(getCurrentPath())), key -> new TreeSet<>());
        if (Set.of("equals", "hashCode", "toString").contains(tree.getName().toString())) {
            fault(6, tree.getName() + " of its own", tree);
        }
        if (tree.getReturnType() != null) {
            TypeMirror answer = trees.getTypeMirror(new TreePath(getCurrentPath(), tree.getReturnType()));
            if (answer.getKind() != TypeKind.VOID && !isAllowed(answer)) {
                fault(3, "the type " + answer, tree);
            }
        }
        if (tree.getParameters().size() > MOST_PARAMETERS) {
            fault(11, "more than seven parameters", tree);
        }
        long start = trees.getSourcePositions().getStartPosition(unit, tree);
        long end = trees.getSourcePositions().getEndPosition(unit, tree);
        if (end >= 0 && unit.getLineMap().getLineNumber(end) - unit.getLineMap().getLineNumber(start) >= MOST_LINES) {
            fault(11, "more than sixty lines", tree);
        }
        return super.visitMethod(tree, none);
    }

    @Override
    public Void visitMethodInvocation(MethodInvocationTree tree, Void none) {
        Element called = trees.getElement(getCurrentPath());
        if (isOwn(called.getEnclosingElement().asType())) {
            noteCall(called);
        } else if (!LIBRARY_CALLS.contains(called.getEnclosingElement() + "." + called.getSimpleName())) {
            fault(4, "a call of " + called.getEnclosingElement() + "." + called.getSimpleName(), tree);
        }
        return super.visitMethodInvocation(tree, none);
    }

    private static String nameOf(Element method) {
        return method.getEnclosingElement().getSimpleName() + "." + method;
    }

    /** A call in a field's initialiser is one of the constructor. */
    private void noteCall(Element called) {
        Element caller = around();
        if (caller.getKind() != ElementKind.FIELD) {
            calls.computeIfAbsent(nameOf(caller), key -> new TreeSet<>()).add(nameOf(called));
            return;
        }
        for (Element part : caller.getEnclosingElement().getEnclosedElements()) {
            if (part.getKind() == ElementKind.CONSTRUCTOR) {
                calls.computeIfAbsent(nameOf(part), key -> new TreeSet<>()).add(nameOf(called));
            }
        }
    }

    /** The method, constructor or field in which the scanner stands. */
    private Element around() {
        TreePath path = getCurrentPath();
        while (!(path.getLeaf() instanceof MethodTree) && !isField(path)) {
            path = path.getParentPath();
        }
        return trees.getElement(path);
    }

    private static boolean isField(TreePath path) {
        return path.getLeaf() instanceof VariableTree && path.getParentPath().getLeaf() instanceof ClassTree;
    }

    void judgeCalls() {
        for (String method : calls.keySet()) {
            List<String> chain = deepest(method, new ArrayList<>());
            if (chain.size() > MOST_DEPTH) {
                faults.add("11: calls " + chain.size() + " deep, " + chain);
            }
        }
    }

    private List<String> deepest(String method, List<String> open) {
        if (open.contains(method)) {
            faults.add("8: recursion of " + method);
            return open;
        }
        List<String> chain = new ArrayList<>(open);
        chain.add(method);
        List<String> longest = chain;
        for (String called : calls.getOrDefault(method, Set.of())) {
            List<String> further = deepest(called, chain);
            longest = further.size() > longest.size() ? further : longest;
        }
        return longest;
    }

    // ---- rules 6 and 10: what is not to be written

    @Override
    public Void visitThrow(ThrowTree tree, Void none) {
        fault(6, "throw", tree);
        return super.visitThrow(tree, none);
    }

    @Override
    public Void visitTry(TryTree tree, Void none) {
        fault(6, "try", tree);
        return super.visitTry(tree, none);
    }

    @Override
    public Void visitSynchronized(SynchronizedTree tree, Void none) {
        fault(6, "synchronized", tree);
        return super.visitSynchronized(tree, none);
    }

    @Override
    public Void visitAssert(AssertTree tree, Void none) {
        fault(6, "assert", tree);
        return super.visitAssert(tree, none);
    }

    @Override
    public Void visitTypeCast(TypeCastTree tree, Void none) {
        if (!trees.getTypeMirror(new TreePath(getCurrentPath(), tree.getType())).getKind().isPrimitive()) {
            fault(6, "a cast to a class", tree);
        }
        return super.visitTypeCast(tree, none);
    }

    @Override
    public Void visitBinary(BinaryTree tree, Void none) {
        boolean ofTexts = isText(tree.getLeftOperand()) || isText(tree.getRightOperand());
        switch (tree.getKind()) {
            case PLUS -> {
                if (ofTexts) {
                    fault(10, "texts joined by +", tree);
                }
            }
            case EQUAL_TO, NOT_EQUAL_TO -> {
                if (ofTexts) {
                    fault(6, "texts or Integers compared by ==", tree);
                }
            }
            case DIVIDE, REMAINDER -> judgeDivisor(tree.getRightOperand(), tree);
            default -> { }
        }
        return super.visitBinary(tree, none);
    }

    @Override
    public Void visitCompoundAssignment(CompoundAssignmentTree tree, Void none) {
        if (tree.getKind() == Tree.Kind.PLUS_ASSIGNMENT && isText(tree.getVariable())) {
            fault(10, "texts joined by +", tree);
        }
        if (tree.getKind() == Tree.Kind.DIVIDE_ASSIGNMENT || tree.getKind() == Tree.Kind.REMAINDER_ASSIGNMENT) {
            judgeDivisor(tree.getExpression(), tree);
        }
        return super.visitCompoundAssignment(tree, none);
    }

    private boolean isText(ExpressionTree tree) {
        TypeMirror type = trees.getTypeMirror(new TreePath(getCurrentPath(), tree));
        return type != null && Set.of("java.lang.String", "java.lang.Integer").contains(type.toString());
    }

    // ---- rules 7 and 9: divisors, indexes, loops

    private void judgeDivisor(ExpressionTree divisor, Tree tree) {
        Long value = constant(divisor);
        if (value == null || value == 0) {
            fault(7, "a divisor that is no constant but 0", tree);
        }
    }

    /** Each name in an index must be held against both ends by the lines of the same method. */
    @Override
    public Void visitArrayAccess(ArrayAccessTree tree, Void none) {
        Element caller = around();
        Tree method = trees.getTree(caller);
        for (String name : namesIn(tree.getIndex())) {
            Ends ends = new Ends(name);
            ends.scan(method, null);
            if (!ends.low || !ends.high) {
                fault(7, "an index that is not looked at: " + name, tree);
            }
        }
        return super.visitArrayAccess(tree, none);
    }

    private Set<String> namesIn(Tree index) {
        Set<String> names = new TreeSet<>();
        new TreeScanner<Void, Void>() {
            @Override
            public Void visitIdentifier(IdentifierTree tree, Void none) {
                if (constant(tree) == null) {
                    names.add(tree.getName().toString());
                }
                return null;
            }

            @Override
            public Void visitMethodInvocation(MethodInvocationTree tree, Void none) {
                names.add(tree.toString());
                return null;
            }
        }.scan(index, null);
        return names;
    }

    /** Whether a method's lines compare a name with a least and with a most, or ask an is..() about it. */
    private static final class Ends extends TreeScanner<Void, Void> {
        private final String name;
        private boolean low = false;
        private boolean high = false;

        Ends(String name) {
            this.name = name;
        }

        @Override
        public Void visitBinary(BinaryTree tree, Void none) {
            if (tree.getLeftOperand().toString().equals(name)) {
                String right = tree.getRightOperand().toString();
                boolean isLeast = right.equals("0") || right.equals("ROOT");
                boolean isOrder = Set.of(Tree.Kind.LESS_THAN, Tree.Kind.GREATER_THAN_EQUAL, Tree.Kind.GREATER_THAN)
                        .contains(tree.getKind());
                low |= isOrder && isLeast;
                high |= isOrder && !isLeast && tree.getKind() != Tree.Kind.GREATER_THAN;
            }
            return super.visitBinary(tree, none);
        }

        @Override
        public Void visitForLoop(ForLoopTree tree, Void none) {
            for (Tree start : tree.getInitializer()) {
                low |= start instanceof VariableTree counter && counter.getName().contentEquals(name)
                        && counter.getInitializer() instanceof LiteralTree;
            }
            return super.visitForLoop(tree, none);
        }

        @Override
        public Void visitMethodInvocation(MethodInvocationTree tree, Void none) {
            if (tree.getMethodSelect().toString().startsWith("is")) {
                for (ExpressionTree asked : tree.getArguments()) {
                    boolean isAsked = asked.toString().equals(name);
                    low |= isAsked;
                    high |= isAsked;
                }
            }
            return super.visitMethodInvocation(tree, none);
        }
    }

    @Override
    public Void visitWhileLoop(WhileLoopTree tree, Void none) {
        fault(9, "a loop without a counter", tree);
        return super.visitWhileLoop(tree, none);
    }

    @Override
    public Void visitDoWhileLoop(DoWhileLoopTree tree, Void none) {
        fault(9, "a loop without a counter", tree);
        return super.visitDoWhileLoop(tree, none);
    }

    @Override
    public Void visitEnhancedForLoop(EnhancedForLoopTree tree, Void none) {
        fault(9, "a loop without a counter", tree);
        return super.visitEnhancedForLoop(tree, none);
    }

    /** A counter that goes one way by one, against a bound that is a constant, and that the body leaves alone. */
    @Override
    public Void visitForLoop(ForLoopTree tree, Void none) {
        boolean isPlain = tree.getInitializer().size() == 1 && tree.getUpdate().size() == 1
                && tree.getInitializer().get(0) instanceof VariableTree;
        if (!isPlain) {
            fault(9, "a loop without one counter", tree);
            return super.visitForLoop(tree, none);
        }
        String counter = ((VariableTree) tree.getInitializer().get(0)).getName().toString();
        ExpressionStatementTree step = tree.getUpdate().get(0);
        boolean goesUp = step.toString().startsWith(counter + "++");
        boolean goesDown = step.toString().startsWith(counter + "--");
        if (!goesUp && !goesDown || !isBound(tree.getCondition(), counter, goesUp)) {
            fault(9, "a loop whose end can not be seen", tree);
        }
        if (isChanged(tree.getStatement(), counter)) {
            fault(9, "a counter that the body changes", tree);
        }
        return super.visitForLoop(tree, none);
    }

    private boolean isBound(ExpressionTree condition, String counter, boolean goesUp) {
        if (condition instanceof ParenthesizedTree inner) {
            return isBound(inner.getExpression(), counter, goesUp);
        }
        if (!(condition instanceof BinaryTree pair)) {
            return false;
        }
        if (pair.getKind() == Tree.Kind.CONDITIONAL_AND) {
            return isBound(pair.getLeftOperand(), counter, goesUp) || isBound(pair.getRightOperand(), counter, goesUp);
        }
        Set<Tree.Kind> due = goesUp ? Set.of(Tree.Kind.LESS_THAN, Tree.Kind.LESS_THAN_EQUAL)
                : Set.of(Tree.Kind.GREATER_THAN, Tree.Kind.GREATER_THAN_EQUAL);
        return due.contains(pair.getKind()) && pair.getLeftOperand().toString().equals(counter)
                && constant(pair.getRightOperand()) != null;
    }

    private static boolean isChanged(Tree body, String counter) {
        boolean[] found = {false};
        new TreeScanner<Void, Void>() {
            @Override
            public Void visitAssignment(AssignmentTree tree, Void none) {
                found[0] |= tree.getVariable().toString().equals(counter);
                return super.visitAssignment(tree, none);
            }

            @Override
            public Void visitCompoundAssignment(CompoundAssignmentTree tree, Void none) {
                found[0] |= tree.getVariable().toString().equals(counter);
                return super.visitCompoundAssignment(tree, none);
            }

            @Override
            public Void visitUnary(UnaryTree tree, Void none) {
                found[0] |= tree.getExpression().toString().equals(counter) && tree.getKind() != Tree.Kind.UNARY_MINUS;
                return super.visitUnary(tree, none);
            }
        }.scan(body, null);
        return found[0];
    }

    /** What a constant expression comes to; null for any other. */
    private Long constant(ExpressionTree tree) {
        if (tree instanceof ParenthesizedTree inner) {
            return constant(inner.getExpression());
        }
        if (tree instanceof LiteralTree literal) {
            return literal.getValue() instanceof Number value ? (Long) value.longValue() : null;
        }
        if (tree instanceof BinaryTree pair) {
            Long left = constant(pair.getLeftOperand());
            Long right = constant(pair.getRightOperand());
            return left == null || right == null ? null : computed(pair.getKind(), left, right);
        }
        if (tree instanceof IdentifierTree || tree instanceof MemberSelectTree) {
            Element element = trees.getElement(TreePath.getPath(unit, tree));
            return element instanceof VariableElement field && field.getConstantValue() instanceof Number value
                    ? (Long) value.longValue() : null;
        }
        return null;
    }

    private static Long computed(Tree.Kind kind, long left, long right) {
        return switch (kind) {
            case PLUS -> left + right;
            case MINUS -> left - right;
            case MULTIPLY -> left * right;
            default -> null;
        };
    }

    // ---- rule 12: what is made

    @Override
    public Void visitNewClass(NewClassTree tree, Void none) {
        Element made = trees.getElement(getCurrentPath());
        if (tree.getClassBody() != null) {
            fault(2, "an anonymous class", tree);
        }
        judgeMaking(tree);
        if (isOwn(made.getEnclosingElement().asType())) {
            noteCall(made);
        }
        return super.visitNewClass(tree, none);
    }

    @Override
    public Void visitNewArray(NewArrayTree tree, Void none) {
        judgeMaking(tree);
        return super.visitNewArray(tree, none);
    }

    private void judgeMaking(Tree tree) {
        if (around().getKind() == ElementKind.METHOD) {
            fault(12, "made by a method", tree);
        }
    }
}
