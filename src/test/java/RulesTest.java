import com.sun.source.tree.ArrayAccessTree;
import com.sun.source.tree.AssignmentTree;
import com.sun.source.tree.BinaryTree;
import com.sun.source.tree.ClassTree;
import com.sun.source.tree.CompilationUnitTree;
import com.sun.source.tree.CompoundAssignmentTree;
import com.sun.source.tree.ExpressionTree;
import com.sun.source.tree.ForLoopTree;
import com.sun.source.tree.IdentifierTree;
import com.sun.source.tree.LiteralTree;
import com.sun.source.tree.MethodInvocationTree;
import com.sun.source.tree.MethodTree;
import com.sun.source.tree.NewArrayTree;
import com.sun.source.tree.NewClassTree;
import com.sun.source.tree.Tree;
import com.sun.source.tree.UnaryTree;
import com.sun.source.tree.VariableTree;
import com.sun.source.util.JavacTask;
import com.sun.source.util.SourcePositions;
import com.sun.source.util.TreePath;
import com.sun.source.util.TreePathScanner;
import com.sun.source.util.TreeScanner;
import com.sun.source.util.Trees;
import java.io.IOException;
import java.nio.file.Files;
import java.nio.file.Path;
import java.util.EnumSet;
import java.util.HashMap;
import java.util.HashSet;
import java.util.List;
import java.util.Map;
import java.util.Set;
import javax.lang.model.element.Element;
import javax.lang.model.element.ExecutableElement;
import javax.lang.model.element.Modifier;
import javax.lang.model.element.VariableElement;
import javax.lang.model.type.TypeMirror;
import javax.tools.JavaCompiler;
import javax.tools.StandardJavaFileManager;
import javax.tools.ToolProvider;

/**
 * The thirteen rules of LANGUAGE.md, read off the program as the compiler understands it. Where a rule leaves more than
 * the program needs (loops, library, types), this holds the program to the less that it needs.
 */
public final class RulesTest {
    private static final int MOST_DEEP = 8;
    private static final int MOST_LINES = 60;
    private static final int MOST_PARAMETERS = 7;
    private static final int MOST_CLASSES = 12;
    private static final int MOST_FIELDS = 20;

    private static final Set<String> LIBRARY = Set.of(
        "java.lang.Object.<init>", "java.lang.Math.abs", "java.lang.Math.max", "java.lang.Math.min",
        "java.lang.Integer.bitCount", "java.lang.System.arraycopy");
    private static final Set<String> TYPES = Set.of("int", "long", "boolean", "int[]");
    /** Methods that answer whether a number is a place in a row. */
    private static final Set<String> GUARDS = Set.of("has", "isLaid");

    private static final Set<Tree.Kind> RULED_OUT = EnumSet.of(
        Tree.Kind.THROW, Tree.Kind.TRY, Tree.Kind.CATCH, Tree.Kind.ASSERT, Tree.Kind.SYNCHRONIZED,
        Tree.Kind.LAMBDA_EXPRESSION, Tree.Kind.MEMBER_REFERENCE, Tree.Kind.IMPORT, Tree.Kind.PACKAGE,
        Tree.Kind.TYPE_CAST, Tree.Kind.INSTANCE_OF, Tree.Kind.BINDING_PATTERN, Tree.Kind.WHILE_LOOP,
        Tree.Kind.DO_WHILE_LOOP, Tree.Kind.ENHANCED_FOR_LOOP, Tree.Kind.DOUBLE_LITERAL, Tree.Kind.FLOAT_LITERAL,
        Tree.Kind.STRING_LITERAL, Tree.Kind.NULL_LITERAL, Tree.Kind.SWITCH_EXPRESSION, Tree.Kind.ANNOTATION,
        Tree.Kind.INTERFACE, Tree.Kind.ENUM, Tree.Kind.RECORD);

    private static final Checks checks = new Checks();

    public static void main(String[] args) throws IOException {
        Path program = Path.of(System.getProperty("program", "src/main/java/TenArrows.java"));
        checks.isTrue("signs 1 .. 127", Files.readString(program).chars().allMatch(c -> c >= 1 && c <= 127));
        JavaCompiler compiler = ToolProvider.getSystemJavaCompiler();
        try (StandardJavaFileManager files = compiler.getStandardFileManager(null, null, null)) {
            JavacTask task = (JavacTask) compiler.getTask(null, files, null, List.of("--release", "17", "-proc:none"),
                null, files.getJavaFileObjects(program));
            CompilationUnitTree unit = task.parse().iterator().next();
            task.analyze();
            Reader reader = new Reader(Trees.instance(task), unit);
            checks.due("rule 1: classes of the file", 1, unit.getTypeDecls().size());
            reader.scan(unit, null);
            reader.finish();
        }
        checks.finish("RulesTest");
    }

    /** Goes through the whole file once; calls among its own methods are gathered for the depth. */
    private static final class Reader extends TreePathScanner<Void, Void> {
        private final Trees trees;
        private final CompilationUnitTree unit;
        private final Map<ExecutableElement, Set<ExecutableElement>> calls = new HashMap<>();
        private int classes = 0;

        Reader(Trees trees, CompilationUnitTree unit) {
            this.trees = trees;
            this.unit = unit;
        }

        void finish() {
            checks.isTrue("rule 11: some twelve classes", classes >= 1 && classes <= MOST_CLASSES);
            int deepest = 0;
            for (ExecutableElement method : calls.keySet()) {
                int deep = depthOf(method, new HashSet<>());
                deepest = Math.max(deepest, deep);
                checks.isTrue("rule 11: eight deep: " + method + " goes " + deep, deep <= MOST_DEEP);
            }
            checks.isTrue("calls were found", calls.size() >= 35 && deepest >= 2);
        }

        @Override
        public Void scan(Tree tree, Void none) {
            if (tree != null) {
                checks.isTrue("ruled out: " + at(tree), !RULED_OUT.contains(tree.getKind()));
            }
            return super.scan(tree, none);
        }

        @Override
        public Void visitClass(ClassTree tree, Void none) {
            classes++;
            boolean outer = getCurrentPath().getParentPath().getLeaf() == unit;
            Set<Modifier> flags = tree.getModifiers().getFlags();
            Set<Modifier> due = outer ? Set.of(Modifier.PUBLIC, Modifier.FINAL)
                : Set.of(Modifier.PRIVATE, Modifier.STATIC, Modifier.FINAL);
            checks.isTrue("rules 1, 2: " + tree.getSimpleName() + " is " + flags, flags.equals(due));
            checks.isTrue("rule 2: inside the face alone: " + tree.getSimpleName(), outer
                || getCurrentPath().getParentPath().getParentPath().getLeaf() == unit);
            long fields = tree.getMembers().stream().filter(RulesTest::isObjectField).count();
            checks.isTrue("rule 11: some twenty fields: " + tree.getSimpleName(), fields <= MOST_FIELDS);
            return super.visitClass(tree, none);
        }

        @Override
        public Void visitVariable(VariableTree tree, Void none) {
            VariableElement variable = (VariableElement) here();
            checks.isTrue("rule 3: " + at(tree), isAllowed(variable.asType()));
            if (variable.getModifiers().contains(Modifier.STATIC)) {
                checks.isTrue("rule 5: final, a constant: " + at(tree),
                    variable.getModifiers().contains(Modifier.FINAL) && variable.getConstantValue() != null);
            }
            return super.visitVariable(tree, none);
        }

        @Override
        public Void visitMethod(MethodTree tree, Void none) {
            calls.computeIfAbsent((ExecutableElement) here(), key -> new HashSet<>());
            checks.isTrue("rule 11: seven parameters: " + tree.getName(), tree.getParameters().size() <= MOST_PARAMETERS);
            checks.isTrue("rule 11: some sixty lines: " + tree.getName(), linesOf(tree) <= MOST_LINES);
            checks.isTrue("rule 6: no equals, hashCode, toString: " + tree.getName(),
                !Set.of("equals", "hashCode", "toString").contains(tree.getName().toString()));
            return super.visitMethod(tree, none);
        }

        @Override
        public Void visitMethodInvocation(MethodInvocationTree tree, Void none) {
            countCall((ExecutableElement) here(), tree);
            return super.visitMethodInvocation(tree, none);
        }

        @Override
        public Void visitNewClass(NewClassTree tree, Void none) {
            MethodTree maker = enclosingMethod();
            checks.isTrue("rule 12: made in a constructor alone: " + at(tree),
                maker != null && maker.getName().contentEquals("<init>"));
            checks.isTrue("rule 2: no class without a name: " + at(tree), tree.getClassBody() == null);
            countCall((ExecutableElement) here(), tree);
            return super.visitNewClass(tree, none);
        }

        @Override
        public Void visitNewArray(NewArrayTree tree, Void none) {
            checks.isTrue("rule 12: rows are made with their object: " + at(tree), enclosingMethod() == null);
            checks.isTrue("rule 7: of a length more than 0: " + at(tree), tree.getDimensions().size() == 1
                && constantOf(tree.getDimensions().get(0)) > 0);
            return super.visitNewArray(tree, none);
        }

        @Override
        public Void visitForLoop(ForLoopTree tree, Void none) {
            checks.isTrue("rule 9: a counter against a bound: " + at(tree), tree.getInitializer().size() == 1
                && tree.getCondition() != null && tree.getUpdate().size() == 1);
            String counter = tree.getInitializer().get(0) instanceof VariableTree counted
                ? counted.getName().toString() : "";
            checks.isTrue("rule 9: the bound: " + at(tree), comparedIn(tree.getCondition()).contains(counter));
            checks.isTrue("rule 9: the step: " + at(tree), namesIn(tree.getUpdate().get(0)).contains(counter));
            checks.isTrue("rule 9: nothing else sets the counter: " + at(tree), !setIn(tree.getStatement(), counter));
            return super.visitForLoop(tree, none);
        }

        @Override
        public Void visitBinary(BinaryTree tree, Void none) {
            if (tree.getKind() == Tree.Kind.DIVIDE || tree.getKind() == Tree.Kind.REMAINDER) {
                checkDivisor(tree.getRightOperand());
            }
            return super.visitBinary(tree, none);
        }

        @Override
        public Void visitCompoundAssignment(CompoundAssignmentTree tree, Void none) {
            checks.isTrue("rule 7: no division hidden in a setting: " + at(tree),
                tree.getKind() != Tree.Kind.DIVIDE_ASSIGNMENT && tree.getKind() != Tree.Kind.REMAINDER_ASSIGNMENT);
            return super.visitCompoundAssignment(tree, none);
        }

        @Override
        public Void visitArrayAccess(ArrayAccessTree tree, Void none) {
            MethodTree method = enclosingMethod();
            Set<String> tested = method == null ? Set.of() : comparedIn(method);
            for (String name : namesIn(tree.getIndex())) {
                boolean constant = Character.isUpperCase(name.charAt(0));
                checks.isTrue("rule 7: looked at before it is used: " + at(tree), constant || tested.contains(name));
            }
            return super.visitArrayAccess(tree, none);
        }

        private void checkDivisor(ExpressionTree divisor) {
            if (divisor instanceof IdentifierTree name && !Character.isUpperCase(name.getName().charAt(0))) {
                MethodTree method = enclosingMethod();
                checks.isTrue("rule 7: a divisor is looked at: " + divisor,
                    method != null && comparedIn(method).contains(name.getName().toString()));
            } else {
                checks.isTrue("rule 7: a divisor is not 0: " + divisor, constantOf(divisor) > 0);
            }
        }

        /** A call of the file's own is kept for the depth; another one must stand in the list of the library. */
        private void countCall(ExecutableElement called, Tree tree) {
            String owner = called.getEnclosingElement().toString();
            if (owner.startsWith("TenArrows")) {
                MethodTree caller = enclosingMethod();
                if (caller != null) {
                    ExecutableElement from = (ExecutableElement) trees.getElement(trees.getPath(unit, caller));
                    calls.computeIfAbsent(from, key -> new HashSet<>()).add(called);
                }
            } else {
                checks.isTrue("rule 4: the library: " + at(tree), LIBRARY.contains(owner + "." + called.getSimpleName()));
            }
        }

        private int depthOf(ExecutableElement method, Set<ExecutableElement> open) {
            if (!open.add(method)) {
                checks.isTrue("rule 8: calls itself: " + method, false);
                return 0;
            }
            int below = 0;
            for (ExecutableElement called : calls.getOrDefault(method, Set.of())) {
                below = Math.max(below, depthOf(called, open));
            }
            open.remove(method);
            return below + 1;
        }

        /** What a row's length or a divisor of constants alone is; -1: it is not of constants alone. */
        private int constantOf(ExpressionTree tree) {
            if (tree instanceof BinaryTree pair) {
                int left = constantOf(pair.getLeftOperand());
                int right = constantOf(pair.getRightOperand());
                boolean known = left >= 0 && right >= 0;
                return !known ? -1 : pair.getKind() == Tree.Kind.PLUS ? left + right
                    : pair.getKind() == Tree.Kind.MULTIPLY ? left * right : -1;
            }
            if (tree instanceof LiteralTree literal && literal.getValue() instanceof Integer value) {
                return value;
            }
            Element named = trees.getElement(trees.getPath(unit, tree));
            return named instanceof VariableElement constant && constant.getConstantValue() instanceof Integer value
                ? value : -1;
        }

        private Element here() {
            return trees.getElement(getCurrentPath());
        }

        private MethodTree enclosingMethod() {
            for (TreePath path = getCurrentPath(); path != null; path = path.getParentPath()) {
                if (path.getLeaf() instanceof MethodTree method) {
                    return method;
                }
            }
            return null;
        }

        private boolean isAllowed(TypeMirror type) {
            return TYPES.contains(type.toString()) || type.toString().startsWith("TenArrows.");
        }

        private long linesOf(Tree tree) {
            SourcePositions positions = trees.getSourcePositions();
            long from = unit.getLineMap().getLineNumber(positions.getStartPosition(unit, tree));
            long to = unit.getLineMap().getLineNumber(positions.getEndPosition(unit, tree));
            return to - from + 1;
        }

        private String at(Tree tree) {
            long from = trees.getSourcePositions().getStartPosition(unit, tree);
            String line = from < 0 ? "?" : Long.toString(unit.getLineMap().getLineNumber(from));
            return tree.getKind() + " in line " + line;
        }
    }

    private static boolean isObjectField(Tree member) {
        return member instanceof VariableTree field && !field.getModifiers().getFlags().contains(Modifier.STATIC);
    }

    private static Set<String> namesIn(Tree tree) {
        Set<String> names = new HashSet<>();
        new TreeScanner<Void, Void>() {
            @Override
            public Void visitIdentifier(IdentifierTree name, Void none) {
                names.add(name.getName().toString());
                return null;
            }
        }.scan(tree, null);
        return names;
    }

    /** The names that are held against a bound there, or asked of by a guard. */
    private static Set<String> comparedIn(Tree tree) {
        Set<String> names = new HashSet<>();
        Set<Tree.Kind> comparisons = EnumSet.of(Tree.Kind.LESS_THAN, Tree.Kind.LESS_THAN_EQUAL,
            Tree.Kind.GREATER_THAN, Tree.Kind.GREATER_THAN_EQUAL, Tree.Kind.EQUAL_TO, Tree.Kind.NOT_EQUAL_TO);
        new TreeScanner<Void, Void>() {
            @Override
            public Void visitBinary(BinaryTree pair, Void none) {
                if (comparisons.contains(pair.getKind()) && pair.getLeftOperand() instanceof IdentifierTree name) {
                    names.add(name.getName().toString());
                }
                return super.visitBinary(pair, none);
            }

            @Override
            public Void visitMethodInvocation(MethodInvocationTree call, Void none) {
                if (call.getMethodSelect() instanceof IdentifierTree name && GUARDS.contains(name.getName().toString())) {
                    call.getArguments().forEach(argument -> names.addAll(namesIn(argument)));
                }
                return super.visitMethodInvocation(call, none);
            }
        }.scan(tree, null);
        return names;
    }

    private static boolean setIn(Tree tree, String counter) {
        boolean[] found = {false};
        new TreeScanner<Void, Void>() {
            @Override
            public Void visitAssignment(AssignmentTree set, Void none) {
                found[0] |= set.getVariable().toString().equals(counter);
                return super.visitAssignment(set, none);
            }

            @Override
            public Void visitCompoundAssignment(CompoundAssignmentTree set, Void none) {
                found[0] |= set.getVariable().toString().equals(counter);
                return super.visitCompoundAssignment(set, none);
            }

            @Override
            public Void visitUnary(UnaryTree set, Void none) {
                boolean sets = set.getKind().name().endsWith("INCREMENT") || set.getKind().name().endsWith("DECREMENT");
                found[0] |= sets && set.getExpression().toString().equals(counter);
                return super.visitUnary(set, none);
            }
        }.scan(tree, null);
        return found[0];
    }
}
