import com.sun.source.tree.AssertTree;
import com.sun.source.tree.AssignmentTree;
import com.sun.source.tree.BinaryTree;
import com.sun.source.tree.BlockTree;
import com.sun.source.tree.ClassTree;
import com.sun.source.tree.CompilationUnitTree;
import com.sun.source.tree.CompoundAssignmentTree;
import com.sun.source.tree.DoWhileLoopTree;
import com.sun.source.tree.EnhancedForLoopTree;
import com.sun.source.tree.ExpressionStatementTree;
import com.sun.source.tree.ExpressionTree;
import com.sun.source.tree.ForLoopTree;
import com.sun.source.tree.IdentifierTree;
import com.sun.source.tree.LambdaExpressionTree;
import com.sun.source.tree.MemberReferenceTree;
import com.sun.source.tree.MemberSelectTree;
import com.sun.source.tree.MethodInvocationTree;
import com.sun.source.tree.MethodTree;
import com.sun.source.tree.NewArrayTree;
import com.sun.source.tree.NewClassTree;
import com.sun.source.tree.SynchronizedTree;
import com.sun.source.tree.ThrowTree;
import com.sun.source.tree.Tree;
import com.sun.source.tree.TryTree;
import com.sun.source.tree.UnaryTree;
import com.sun.source.tree.VariableTree;
import com.sun.source.tree.WhileLoopTree;
import com.sun.source.util.JavacTask;
import com.sun.source.util.SourcePositions;
import com.sun.source.util.TreeScanner;
import com.sun.source.util.Trees;
import java.io.IOException;
import java.nio.file.Path;
import java.util.ArrayList;
import java.util.HashMap;
import java.util.HashSet;
import java.util.List;
import java.util.Map;
import java.util.Set;
import java.util.TreeSet;
import javax.lang.model.element.Modifier;
import javax.tools.JavaCompiler;
import javax.tools.StandardJavaFileManager;
import javax.tools.ToolProvider;

/**
 * The rules of LANGUAGE.md that can be seen in the source. Where a rule leaves
 * a choice, the test asks for what the program does: no exception, no import,
 * no object but those of the constructors, and loops that count up by one.
 */
public final class FormTest extends TreeScanner<Void, Void> {
    private static final Path PROGRAM = Path.of("src/main/java/ForkedPages.java");
    private static final int MOST_PARAMETERS = 7;
    private static final int MOST_LINES = 60;
    private static final int MOST_CALLS_DEEP = 8;
    private static final int MOST_CLASSES = 12;
    private static final int MOST_FIELDS = 20;

    private final CompilationUnitTree unit;
    private final SourcePositions positions;
    private final Set<String> classes = new HashSet<>();
    private final Set<String> openMethods = new HashSet<>();
    private final Set<String> hiddenMethods = new HashSet<>();
    private final Map<String, Set<String>> calls = new HashMap<>();
    private final List<MemberSelectTree> classCalls = new ArrayList<>();
    private MethodTree method;

    private FormTest(CompilationUnitTree unit, SourcePositions positions) {
        this.unit = unit;
        this.positions = positions;
    }

    public static void main(String[] args) throws IOException {
        JavaCompiler compiler = ToolProvider.getSystemJavaCompiler();
        try (StandardJavaFileManager files = compiler.getStandardFileManager(null, null, null)) {
            JavacTask task = (JavacTask) compiler.getTask(null, files, null, null, null, files.getJavaFileObjects(PROGRAM));
            for (CompilationUnitTree unit : task.parse()) {
                FormTest test = new FormTest(unit, Trees.instance(task).getSourcePositions());
                test.scan(unit, null);
                test.seeTheWhole();
            }
        }
        Check.finish();
    }

    private void rule(int number, Tree place, String words, boolean holds) {
        long start = positions.getStartPosition(unit, place);
        long line = start < 0 ? 0 : unit.getLineMap().getLineNumber(start);
        Check.due("line " + line + ", rule " + number + ": " + words, holds);
    }

    private void never(int number, Tree place) {
        rule(number, place, "no " + place.getKind(), false);
    }

    private void seeTheWhole() {
        rule(1, unit, "no package line", unit.getPackage() == null);
        rule(1, unit, "one class", unit.getTypeDecls().size() == 1);
        rule(4, unit, "no import", unit.getImports().isEmpty());
        rule(11, unit, "few classes", classes.size() <= MOST_CLASSES);
        Set<String> both = new TreeSet<>(openMethods);
        both.retainAll(hiddenMethods);
        rule(1, unit, "no private method bears the name of a public one: " + both, both.isEmpty());
        for (MemberSelectTree call : classCalls) {
            rule(4, call, "of the library only Long.bitCount: " + call,
                classes.contains(call.getExpression().toString()) || call.toString().equals("Long.bitCount"));
        }
        for (String name : calls.keySet()) {
            int depth = depth(name, 1);
            rule(11, unit, name + " goes " + depth + " calls deep", depth <= MOST_CALLS_DEEP);
        }
    }

    /** Calls are told apart by their names alone; one that comes round again would go deeper than any limit. */
    private int depth(String name, int above) {
        int deepest = above;
        if (above <= MOST_CALLS_DEEP) {
            for (String called : calls.getOrDefault(name, Set.of())) {
                deepest = Math.max(deepest, depth(called, above + 1));
            }
        }
        return deepest;
    }

    @Override
    public Void visitClass(ClassTree tree, Void none) {
        Set<Modifier> modifiers = tree.getModifiers().getFlags();
        boolean inside = !classes.isEmpty();
        rule(1, tree, "the classes inside are private and static", !inside
            || modifiers.contains(Modifier.PRIVATE) && modifiers.contains(Modifier.STATIC));
        classes.add(tree.getSimpleName().toString());
        int fields = 0;
        for (Tree member : tree.getMembers()) {
            if (member instanceof VariableTree field) {
                fields += seeField(field);
            }
            rule(5, member, "no initialiser block", !(member instanceof BlockTree));
        }
        rule(11, tree, fields + " fields", fields <= MOST_FIELDS);
        return super.visitClass(tree, none);
    }

    /** 1 for a field of an object, 0 for a constant. */
    private int seeField(VariableTree field) {
        Set<Modifier> modifiers = field.getModifiers().getFlags();
        boolean constant = modifiers.contains(Modifier.STATIC);
        rule(5, field, "static fields are final", !constant || modifiers.contains(Modifier.FINAL));
        rule(5, field, "static fields are int or long", !constant
            || Set.of("int", "long").contains(field.getType().toString()));
        return constant ? 0 : 1;
    }

    @Override
    public Void visitMethod(MethodTree tree, Void none) {
        boolean open = tree.getModifiers().getFlags().contains(Modifier.PUBLIC);
        (open ? openMethods : hiddenMethods).add(tree.getName().toString());
        rule(11, tree, "at most seven parameters", tree.getParameters().size() <= MOST_PARAMETERS);
        rule(11, tree, "methods stay short", lines(tree) <= MOST_LINES);
        method = tree;
        super.visitMethod(tree, none);
        method = null;
        return null;
    }

    private long lines(Tree tree) {
        long first = unit.getLineMap().getLineNumber(positions.getStartPosition(unit, tree));
        return unit.getLineMap().getLineNumber(positions.getEndPosition(unit, tree)) - first + 1;
    }

    @Override
    public Void visitMethodInvocation(MethodInvocationTree tree, Void none) {
        ExpressionTree called = tree.getMethodSelect();
        String name = called.toString();
        if (called instanceof MemberSelectTree select) {
            name = select.getIdentifier().toString();
            noteClassCalled(select);
        }
        if (method != null) {
            calls.computeIfAbsent(method.getName().toString(), key -> new HashSet<>()).add(name);
        }
        return super.visitMethodInvocation(tree, none);
    }

    private void noteClassCalled(MemberSelectTree select) {
        String receiver = select.getExpression().toString();
        if (select.getExpression() instanceof IdentifierTree && Character.isUpperCase(receiver.charAt(0))) {
            classCalls.add(select);
        }
    }

    @Override
    public Void visitMemberSelect(MemberSelectTree tree, Void none) {
        rule(4, tree, "no library by its long name: " + tree, !tree.toString().startsWith("java"));
        return super.visitMemberSelect(tree, none);
    }

    @Override
    public Void visitForLoop(ForLoopTree tree, Void none) {
        rule(9, tree, "a for counts up by one to a bound", countsUpToABound(tree));
        return super.visitForLoop(tree, none);
    }

    private static boolean countsUpToABound(ForLoopTree loop) {
        if (loop.getInitializer().size() != 1 || loop.getUpdate().size() != 1) {
            return false;
        }
        if (!(loop.getInitializer().get(0) instanceof VariableTree counter)
            || !(loop.getCondition() instanceof BinaryTree condition)
            || !(((ExpressionStatementTree) loop.getUpdate().get(0)).getExpression() instanceof UnaryTree step)) {
            return false;
        }
        String name = counter.getName().toString();
        return condition.getKind() == Tree.Kind.LESS_THAN
            && condition.getLeftOperand().toString().equals(name)
            && condition.getRightOperand() instanceof IdentifierTree
            && step.getKind() == Tree.Kind.POSTFIX_INCREMENT
            && step.getExpression().toString().equals(name)
            && !changes(loop.getStatement(), Set.of(name, condition.getRightOperand().toString()));
    }

    private static boolean changes(Tree body, Set<String> names) {
        Set<String> changed = new HashSet<>();
        new TreeScanner<Void, Void>() {
            @Override
            public Void visitAssignment(AssignmentTree tree, Void none) {
                changed.add(tree.getVariable().toString());
                return super.visitAssignment(tree, none);
            }

            @Override
            public Void visitCompoundAssignment(CompoundAssignmentTree tree, Void none) {
                changed.add(tree.getVariable().toString());
                return super.visitCompoundAssignment(tree, none);
            }

            @Override
            public Void visitUnary(UnaryTree tree, Void none) {
                changed.add(tree.getExpression().toString());
                return super.visitUnary(tree, none);
            }
        }.scan(body, null);
        changed.retainAll(names);
        return !changed.isEmpty();
    }

    @Override
    public Void visitWhileLoop(WhileLoopTree tree, Void none) {
        never(9, tree);
        return super.visitWhileLoop(tree, none);
    }

    @Override
    public Void visitDoWhileLoop(DoWhileLoopTree tree, Void none) {
        never(9, tree);
        return super.visitDoWhileLoop(tree, none);
    }

    @Override
    public Void visitEnhancedForLoop(EnhancedForLoopTree tree, Void none) {
        never(9, tree);
        return super.visitEnhancedForLoop(tree, none);
    }

    @Override
    public Void visitNewClass(NewClassTree tree, Void none) {
        rule(12, tree, "objects are made in constructors", inConstructor());
        rule(2, tree, "no anonymous class", tree.getClassBody() == null);
        return super.visitNewClass(tree, none);
    }

    @Override
    public Void visitNewArray(NewArrayTree tree, Void none) {
        rule(12, tree, "arrays are made in constructors", inConstructor());
        return super.visitNewArray(tree, none);
    }

    /** The value of a field is made in a constructor too. */
    private boolean inConstructor() {
        return method == null || method.getReturnType() == null;
    }

    @Override
    public Void visitLambdaExpression(LambdaExpressionTree tree, Void none) {
        never(2, tree);
        return super.visitLambdaExpression(tree, none);
    }

    @Override
    public Void visitMemberReference(MemberReferenceTree tree, Void none) {
        never(2, tree);
        return super.visitMemberReference(tree, none);
    }

    @Override
    public Void visitThrow(ThrowTree tree, Void none) {
        never(6, tree);
        return super.visitThrow(tree, none);
    }

    @Override
    public Void visitTry(TryTree tree, Void none) {
        never(6, tree);
        return super.visitTry(tree, none);
    }

    @Override
    public Void visitSynchronized(SynchronizedTree tree, Void none) {
        never(6, tree);
        return super.visitSynchronized(tree, none);
    }

    @Override
    public Void visitAssert(AssertTree tree, Void none) {
        never(6, tree);
        return super.visitAssert(tree, none);
    }
}
