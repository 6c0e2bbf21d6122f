import com.sun.source.tree.ArrayAccessTree;
import com.sun.source.tree.AssertTree;
import com.sun.source.tree.AssignmentTree;
import com.sun.source.tree.BinaryTree;
import com.sun.source.tree.BlockTree;
import com.sun.source.tree.ClassTree;
import com.sun.source.tree.CompilationUnitTree;
import com.sun.source.tree.CompoundAssignmentTree;
import com.sun.source.tree.DoWhileLoopTree;
import com.sun.source.tree.ExpressionTree;
import com.sun.source.tree.ForLoopTree;
import com.sun.source.tree.InstanceOfTree;
import com.sun.source.tree.LambdaExpressionTree;
import com.sun.source.tree.LiteralTree;
import com.sun.source.tree.MemberReferenceTree;
import com.sun.source.tree.MethodInvocationTree;
import com.sun.source.tree.MethodTree;
import com.sun.source.tree.NewClassTree;
import com.sun.source.tree.SynchronizedTree;
import com.sun.source.tree.ThrowTree;
import com.sun.source.tree.Tree;
import com.sun.source.tree.TryTree;
import com.sun.source.tree.TypeCastTree;
import com.sun.source.tree.UnaryTree;
import com.sun.source.tree.VariableTree;
import com.sun.source.tree.WhileLoopTree;
import com.sun.source.util.JavacTask;
import com.sun.source.util.TreePathScanner;
import com.sun.source.util.Trees;
import java.io.IOException;
import java.nio.file.Path;
import java.util.ArrayList;
import java.util.List;
import java.util.Map;
import java.util.Set;
import java.util.TreeMap;
import java.util.TreeSet;
import javax.lang.model.element.Element;
import javax.lang.model.element.ElementKind;
import javax.lang.model.element.ExecutableElement;
import javax.lang.model.element.Modifier;
import javax.lang.model.type.TypeMirror;
import javax.tools.JavaCompiler;
import javax.tools.StandardJavaFileManager;
import javax.tools.ToolProvider;

/**
 * The rules of LANGUAGE.md that can be seen from the program's syntax tree. It asks for a little more than the rules
 * do, where the program has no need of what they allow (no try, while or cast), so that little is left to look at.
 * Runs at the project's root.
 */
public final class CodeFormTest {
    private static final Check CHECK = new Check();
    private static final Set<String> LIBRARY = Set.of("String.length", "String.charAt", "Math.floorDiv",
        "Math.floorMod", "Math.abs", "Math.min", "Math.max", "System.arraycopy");
    private static final Set<String> EXCEPTIONS = Set.of("IllegalStateException", "IllegalArgumentException",
        "IndexOutOfBoundsException");
    private static final Set<String> TYPES = Set.of("int", "long", "char", "boolean", "void", "int[]", "char[]",
        "int[][]", "java.lang.String");
    private static final int DEEPEST_CALLS = 8;
    private static final int LONGEST_METHOD = 60;

    public static void main(String[] args) throws IOException {
        JavaCompiler compiler = ToolProvider.getSystemJavaCompiler();
        try (StandardJavaFileManager files = compiler.getStandardFileManager(null, null, null)) {
            JavacTask task = (JavacTask) compiler.getTask(null, files, null, List.of("-proc:none"), null,
                files.getJavaFileObjects(Path.of("src/main/java/AlmanacLoom.java")));
            CompilationUnitTree unit = task.parse().iterator().next();
            task.analyze();
            Form form = new Form(Trees.instance(task), unit);
            form.scan(unit, null);
            CHECK.same("imports", unit.getImports().size(), 0);
            calls(form);
        }
        CHECK.finish("CodeFormTest");
    }

    /** Rules 8 and 11: which methods call themselves, and how deep all other calls go. */
    private static void calls(Form form) {
        for (String method : form.calls.keySet()) {
            if (reachable(form, method).contains(method)) {
                CHECK.same(method + " calls itself: is private", form.privates.contains(method), true);
                CHECK.same(method + " calls itself: carries its depth", form.depthCarriers.contains(method), true);
            }
        }
        Map<String, Integer> depths = new TreeMap<>();
        int deepest = 0;
        for (String method : form.calls.keySet()) {
            int depth = depth(form, method, depths);
            deepest = Math.max(deepest, depth);
            CHECK.same(method + " goes " + depth + " deep", depth <= DEEPEST_CALLS, true);
        }
        CHECK.same("the calls were found", deepest > 3, true);
    }

    private static Set<String> reachable(Form form, String from) {
        Set<String> reached = new TreeSet<>();
        List<String> waiting = new ArrayList<>(form.callsOf(from));
        while (!waiting.isEmpty()) {
            String next = waiting.remove(waiting.size() - 1);
            if (reached.add(next)) {
                waiting.addAll(form.callsOf(next));
            }
        }
        return reached;
    }

    /** The most calls open at once below and with this one, where methods that call one another are one. */
    private static int depth(Form form, String method, Map<String, Integer> known) {
        if (known.containsKey(method)) {
            return known.get(method);
        }
        Set<String> ring = new TreeSet<>(Set.of(method));
        for (String other : reachable(form, method)) {
            if (reachable(form, other).contains(method)) {
                ring.add(other);
            }
        }
        int deepest = 0;
        for (String member : ring) {
            for (String called : form.callsOf(member)) {
                if (!ring.contains(called)) {
                    deepest = Math.max(deepest, depth(form, called, known));
                }
            }
        }
        known.put(method, deepest + 1);
        return deepest + 1;
    }

    /** Goes through the tree; tells each breach, and keeps who calls whom. */
    private static final class Form extends TreePathScanner<Void, Void> {
        final Map<String, Set<String>> calls = new TreeMap<>();
        final Set<String> privates = new TreeSet<>();
        final Set<String> depthCarriers = new TreeSet<>();
        private final Trees trees;
        private final CompilationUnitTree unit;
        private MethodTree method;
        private String methodName = "a field";
        private int loops;

        Form(Trees trees, CompilationUnitTree unit) {
            this.trees = trees;
            this.unit = unit;
        }

        Set<String> callsOf(String caller) {
            return calls.getOrDefault(caller, Set.of());
        }

        private void breach(int rule, String what, Tree tree) {
            long start = trees.getSourcePositions().getStartPosition(unit, tree);
            long line = unit.getLineMap().getLineNumber(start);
            CHECK.same("rule " + rule + ", line " + line + ": " + what, "it is so", "it is not so");
        }

        private Element element() {
            return trees.getElement(getCurrentPath());
        }

        private static boolean isOwn(Element element) {
            Element outermost = element;
            while (outermost.getEnclosingElement().getKind() != ElementKind.PACKAGE) {
                outermost = outermost.getEnclosingElement();
            }
            return outermost.getSimpleName().contentEquals("AlmanacLoom");
        }

        private static String nameOf(Element called) {
            String name = called.getEnclosingElement().getSimpleName() + "." + called.getSimpleName();
            int parameters = ((ExecutableElement) called).getParameters().size();
            return isOwn(called) ? name + "/" + parameters : name;
        }

        private boolean inConstructor() {
            return method != null && method.getReturnType() == null;
        }

        private static boolean isStatic(Element element) {
            return element.getModifiers().contains(Modifier.STATIC);
        }

        @Override
        public Void visitClass(ClassTree tree, Void nothing) {
            Element made = element();
            boolean isInside = made.getEnclosingElement().getKind() == ElementKind.CLASS;
            if (!isInside && made.getEnclosingElement().getKind() != ElementKind.PACKAGE) {
                breach(2, "a local class", tree);
            }
            if (isInside && !made.getModifiers().contains(Modifier.PRIVATE)) {
                breach(1, "a class inside that is not private", tree);
            }
            if (!made.getModifiers().contains(Modifier.FINAL)) {
                breach(12, "a class whose methods could be overridden", tree);
            }
            return super.visitClass(tree, nothing);
        }

        @Override
        public Void visitMethod(MethodTree tree, Void nothing) {
            Element made = element();
            method = tree;
            methodName = nameOf(made);
            calls.put(methodName, new TreeSet<>());
            if (made.getModifiers().contains(Modifier.PRIVATE)) {
                privates.add(methodName);
            }
            for (VariableTree parameter : tree.getParameters()) {
                if (parameter.getName().contentEquals("depth")) {
                    depthCarriers.add(methodName);
                }
            }
            if (tree.getParameters().size() > 7) {
                breach(11, "more than seven parameters", tree);
            }
            long start = trees.getSourcePositions().getStartPosition(unit, tree);
            long end = trees.getSourcePositions().getEndPosition(unit, tree);
            if (start >= 0 && end >= 0
                && unit.getLineMap().getLineNumber(end) - unit.getLineMap().getLineNumber(start) >= LONGEST_METHOD) {
                breach(11, "a long method", tree);
            }
            if (tree.getReturnType() != null) {
                checkType(((ExecutableElement) made).getReturnType(), tree);
            }
            super.visitMethod(tree, nothing);
            method = null;
            methodName = "a field";
            return null;
        }

        @Override
        public Void visitVariable(VariableTree tree, Void nothing) {
            Element made = element();
            checkType(made.asType(), tree);
            boolean isField = made.getKind() == ElementKind.FIELD;
            if (isField && isStatic(made) && !made.getModifiers().contains(Modifier.FINAL)) {
                breach(5, "a static field that is not final", tree);
            }
            if (isField && isStatic(made) && made.asType().toString().startsWith("AlmanacLoom")) {
                breach(5, "a static object", tree);
            }
            return super.visitVariable(tree, nothing);
        }

        private void checkType(TypeMirror type, Tree tree) {
            String name = type.toString();
            boolean isOwn = name.startsWith("AlmanacLoom.") && !name.endsWith("[][]");
            if (!isOwn && !TYPES.contains(name)) {
                breach(3, "the type " + name, tree);
            }
        }

        @Override
        public Void visitMethodInvocation(MethodInvocationTree tree, Void nothing) {
            Element called = element();
            String name = nameOf(called);
            // a constructor's own first line calls Object's
            if (!name.startsWith("Object.")) {
                if (!isOwn(called) && !LIBRARY.contains(name)) {
                    breach(4, "a call of " + name, tree);
                }
                if (inConstructor() || method == null) {
                    breach(12, "a call in a constructor", tree);
                }
                calls.computeIfAbsent(methodName, key -> new TreeSet<>()).add(name);
            }
            return super.visitMethodInvocation(tree, nothing);
        }

        @Override
        public Void visitNewClass(NewClassTree tree, Void nothing) {
            Element made = element().getEnclosingElement();
            boolean isException = EXCEPTIONS.contains(made.getSimpleName().toString());
            if (!isException && !isOwn(made)) {
                breach(4, "a new " + made, tree);
            }
            boolean isThrown = getCurrentPath().getParentPath().getLeaf() instanceof ThrowTree;
            if (isException != isThrown) {
                breach(6, "an exception that is not thrown at once", tree);
            }
            if (!isException && method != null && !inConstructor()) {
                breach(12, "an object made by a call", tree);
            }
            if (tree.getClassBody() != null) {
                breach(2, "an anonymous class", tree);
            }
            return super.visitNewClass(tree, nothing);
        }

        @Override
        public Void visitThrow(ThrowTree tree, Void nothing) {
            boolean isWritten = tree.getExpression() instanceof NewClassTree made && made.getArguments().size() == 1
                && made.getArguments().get(0) instanceof LiteralTree;
            if (!isWritten || inConstructor()) {
                breach(6, "a throw of another kind, or in a constructor", tree);
            }
            return super.visitThrow(tree, nothing);
        }

        @Override
        public Void visitForLoop(ForLoopTree tree, Void nothing) {
            if (tree.getInitializer().size() != 1 || tree.getUpdate().size() != 1 || tree.getCondition() == null
                || !(tree.getInitializer().get(0) instanceof VariableTree counter)) {
                breach(9, "a for without one counter", tree);
                return super.visitForLoop(tree, nothing);
            }
            String name = counter.getName().toString();
            String update = tree.getUpdate().get(0).toString();
            if (!update.startsWith(name + "++") && !update.startsWith(name + "--")) {
                breach(9, "a for that does not count", tree);
            }
            if (!isBound(tree.getCondition(), name)) {
                breach(9, "a for whose condition does not bind its counter", tree);
            }
            if (sets(tree.getStatement(), name)) {
                breach(9, "a for whose body sets the counter", tree);
            }
            loops++;
            super.visitForLoop(tree, nothing);
            loops--;
            return null;
        }

        /** Whether a comparison of the counter stands in the condition, with && alone above it. */
        private static boolean isBound(ExpressionTree condition, String counter) {
            if (condition instanceof BinaryTree both && both.getKind() == Tree.Kind.CONDITIONAL_AND) {
                return isBound(both.getLeftOperand(), counter) || isBound(both.getRightOperand(), counter);
            }
            return condition instanceof BinaryTree compared
                && Set.of(Tree.Kind.LESS_THAN, Tree.Kind.LESS_THAN_EQUAL, Tree.Kind.GREATER_THAN_EQUAL)
                    .contains(compared.getKind())
                && compared.getLeftOperand().toString().equals(counter);
        }

        private static boolean sets(Tree body, String counter) {
            String text = body.toString();
            String word = "(?<![\\w.])" + counter;
            return java.util.regex.Pattern.compile(word + " [-+*/%|&^]?=(?!=)|" + word + "(\\+\\+|--)|(\\+\\+|--)"
                + counter + "(?!\\w)").matcher(text).find();
        }

        @Override
        public Void visitBinary(BinaryTree tree, Void nothing) {
            checkOperator(tree.getKind() == Tree.Kind.PLUS, tree.getLeftOperand(), tree.getRightOperand(), tree);
            boolean divides = tree.getKind() == Tree.Kind.DIVIDE || tree.getKind() == Tree.Kind.REMAINDER;
            if (divides && !(tree.getRightOperand() instanceof LiteralTree)) {
                breach(7, "a divisor that is not written out", tree);
            }
            return super.visitBinary(tree, nothing);
        }

        private void checkOperator(boolean isPlus, Tree left, Tree right, Tree whole) {
            if (isPlus && (isString(left) || isString(right))) {
                breach(10, "texts joined by +", whole);
            }
        }

        private boolean isString(Tree part) {
            TypeMirror type = trees.getTypeMirror(new com.sun.source.util.TreePath(getCurrentPath(), part));
            return type != null && type.toString().equals("java.lang.String");
        }

        @Override
        public Void visitAssignment(AssignmentTree tree, Void nothing) {
            checkTarget(tree.getVariable(), tree);
            return super.visitAssignment(tree, nothing);
        }

        @Override
        public Void visitCompoundAssignment(CompoundAssignmentTree tree, Void nothing) {
            checkTarget(tree.getVariable(), tree);
            boolean divides = tree.getKind() == Tree.Kind.DIVIDE_ASSIGNMENT
                || tree.getKind() == Tree.Kind.REMAINDER_ASSIGNMENT;
            if (divides) {
                breach(7, "a divisor that is not looked at", tree);
            }
            return super.visitCompoundAssignment(tree, nothing);
        }

        @Override
        public Void visitUnary(UnaryTree tree, Void nothing) {
            checkTarget(tree.getExpression(), tree);
            return super.visitUnary(tree, nothing);
        }

        private void checkTarget(Tree target, Tree whole) {
            if (target instanceof ArrayAccessTree access) {
                String row = access.getExpression().toString();
                if (row.equals(row.toUpperCase()) && !(whole instanceof UnaryTree)) {
                    breach(5, "a constant row is changed", whole);
                }
            }
        }

        @Override
        public Void visitBlock(BlockTree tree, Void nothing) {
            if (getCurrentPath().getParentPath().getLeaf() instanceof ClassTree) {
                breach(5, "a block of a class", tree);
            }
            return super.visitBlock(tree, nothing);
        }

        @Override
        public Void visitWhileLoop(WhileLoopTree tree, Void nothing) {
            breach(9, "a while", tree);
            return super.visitWhileLoop(tree, nothing);
        }

        @Override
        public Void visitDoWhileLoop(DoWhileLoopTree tree, Void nothing) {
            breach(9, "a do", tree);
            return super.visitDoWhileLoop(tree, nothing);
        }

        @Override
        public Void visitTry(TryTree tree, Void nothing) {
            breach(6, "a try", tree);
            return super.visitTry(tree, nothing);
        }

        @Override
        public Void visitTypeCast(TypeCastTree tree, Void nothing) {
            breach(6, "a cast", tree);
            return super.visitTypeCast(tree, nothing);
        }

        @Override
        public Void visitInstanceOf(InstanceOfTree tree, Void nothing) {
            breach(6, "an instanceof", tree);
            return super.visitInstanceOf(tree, nothing);
        }

        @Override
        public Void visitSynchronized(SynchronizedTree tree, Void nothing) {
            breach(6, "a synchronized", tree);
            return super.visitSynchronized(tree, nothing);
        }

        @Override
        public Void visitAssert(AssertTree tree, Void nothing) {
            breach(6, "an assert", tree);
            return super.visitAssert(tree, nothing);
        }

        @Override
        public Void visitLambdaExpression(LambdaExpressionTree tree, Void nothing) {
            breach(2, "a lambda", tree);
            return super.visitLambdaExpression(tree, nothing);
        }

        @Override
        public Void visitMemberReference(MemberReferenceTree tree, Void nothing) {
            breach(2, "a method reference", tree);
            return super.visitMemberReference(tree, nothing);
        }
    }
}
