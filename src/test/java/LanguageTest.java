import com.sun.source.tree.ArrayAccessTree;
import com.sun.source.tree.AssignmentTree;
import com.sun.source.tree.ClassTree;
import com.sun.source.tree.CompilationUnitTree;
import com.sun.source.tree.CompoundAssignmentTree;
import com.sun.source.tree.ExpressionTree;
import com.sun.source.tree.ForLoopTree;
import com.sun.source.tree.IdentifierTree;
import com.sun.source.tree.LineMap;
import com.sun.source.tree.MemberSelectTree;
import com.sun.source.tree.MethodInvocationTree;
import com.sun.source.tree.MethodTree;
import com.sun.source.tree.NewArrayTree;
import com.sun.source.tree.NewClassTree;
import com.sun.source.tree.StatementTree;
import com.sun.source.tree.Tree;
import com.sun.source.tree.UnaryTree;
import com.sun.source.tree.VariableTree;
import com.sun.source.util.JavacTask;
import com.sun.source.util.SourcePositions;
import com.sun.source.util.TreeScanner;
import com.sun.source.util.Trees;
import java.io.IOException;
import java.nio.file.Files;
import java.nio.file.Path;
import java.util.EnumSet;
import java.util.HashMap;
import java.util.HashSet;
import java.util.List;
import java.util.Map;
import java.util.Set;
import java.util.TreeSet;
import javax.lang.model.element.Modifier;
import javax.tools.JavaCompiler;
import javax.tools.StandardJavaFileManager;
import javax.tools.ToolProvider;

/**
 * The rules of LANGUAGE.md, looked for in the parsed text of the class. Where the class needs less than a rule
 * leaves (no while, no text, no library but Math), the test asks for that less. Rule 1 is in FaceTest.
 */
public final class LanguageTest extends TreeScanner<Void, Void> {
    private static final Path SOURCE = Path.of("src/main/java/IndentRules.java");

    private static final Set<Tree.Kind> FORBIDDEN = EnumSet.of(Tree.Kind.THROW, Tree.Kind.TRY, Tree.Kind.CATCH,
        Tree.Kind.SYNCHRONIZED, Tree.Kind.ASSERT, Tree.Kind.LAMBDA_EXPRESSION, Tree.Kind.MEMBER_REFERENCE, Tree.Kind.IMPORT,
        Tree.Kind.PACKAGE, Tree.Kind.ANNOTATION, Tree.Kind.WHILE_LOOP, Tree.Kind.DO_WHILE_LOOP, Tree.Kind.ENHANCED_FOR_LOOP,
        Tree.Kind.STRING_LITERAL, Tree.Kind.FLOAT_LITERAL, Tree.Kind.DOUBLE_LITERAL, Tree.Kind.TYPE_CAST,
        Tree.Kind.SWITCH_EXPRESSION);

    private static final Set<String> LIBRARY = Set.of("Math.min", "Math.max");

    private final CompilationUnitTree unit;
    private final SourcePositions positions;
    private final Set<String> classes = new TreeSet<>();
    private final Set<String> methods = new HashSet<>();
    private final Map<String, Set<String>> calls = new HashMap<>();
    private MethodTree inside;

    private LanguageTest(CompilationUnitTree unit, SourcePositions positions) {
        this.unit = unit;
        this.positions = positions;
    }

    public static void main(String[] args) throws IOException {
        Due.check("signs 1 to 127 alone", Files.readString(SOURCE).chars().allMatch(sign -> sign > 0 && sign < 128));
        JavaCompiler compiler = ToolProvider.getSystemJavaCompiler();
        try (StandardJavaFileManager files = compiler.getStandardFileManager(null, null, null)) {
            JavacTask task = (JavacTask) compiler.getTask(null, files, null, List.of("-proc:none"), null,
                files.getJavaFileObjects(SOURCE));
            CompilationUnitTree unit = task.parse().iterator().next();
            LanguageTest test = new LanguageTest(unit, Trees.instance(task).getSourcePositions());
            test.collectNames();
            test.scan(unit, null);
            test.callsHaveAnEnd();
        }
        Due.finish();
    }

    private String where(Tree tree) {
        LineMap lines = unit.getLineMap();
        return " (line " + lines.getLineNumber(positions.getStartPosition(unit, tree)) + ")";
    }

    private void collectNames() {
        new TreeScanner<Void, Void>() {
            @Override
            public Void visitClass(ClassTree tree, Void unused) {
                classes.add(tree.getSimpleName().toString());
                return super.visitClass(tree, unused);
            }

            @Override
            public Void visitMethod(MethodTree tree, Void unused) {
                methods.add(tree.getName().toString());
                return super.visitMethod(tree, unused);
            }
        }.scan(unit, null);
        Due.check("rule 11: some twelve classes", classes.size() <= 12);
        Due.check("the methods were found", methods.size() > 17);
    }

    // ---- rules 3, 6, 9, 10: what does not stand there

    @Override
    public Void scan(Tree tree, Void unused) {
        if (tree != null) {
            Due.check("no " + tree.getKind() + where(tree), !FORBIDDEN.contains(tree.getKind()));
        }
        return super.scan(tree, unused);
    }

    // ---- rules 2, 5, 11: classes and their fields

    @Override
    public Void visitClass(ClassTree tree, Void unused) {
        Due.check("rule 2: no class in a method" + where(tree), inside == null);
        int fields = 0;
        for (Tree member : tree.getMembers()) {
            Due.check("rule 5: no initialiser block" + where(member), member.getKind() != Tree.Kind.BLOCK);
            if (member instanceof ClassTree nested) {
                Due.check("rule 2: static" + where(member), nested.getModifiers().getFlags().contains(Modifier.STATIC));
            }
            if (member instanceof VariableTree field) {
                fields += lookAtField(field);
            }
        }
        Due.check("rule 11: some twenty fields" + where(tree), fields <= 20);
        return super.visitClass(tree, unused);
    }

    /** How many fields it counts for: constants count for none. */
    private int lookAtField(VariableTree field) {
        Set<Modifier> flags = field.getModifiers().getFlags();
        if (!flags.contains(Modifier.STATIC)) {
            return 1;
        }
        Due.check("rule 5: final" + where(field), flags.contains(Modifier.FINAL));
        Due.check("rule 5: int or int[]" + where(field), Set.of("int", "int[]").contains(field.getType().toString()));
        Due.check("rule 5: written out" + where(field), field.getInitializer() != null);
        return 0;
    }

    @Override
    public Void visitVariable(VariableTree tree, Void unused) {
        String type = tree.getType() == null ? "var" : tree.getType().toString();
        String element = type.endsWith("[]") ? type.substring(0, type.length() - 2) : type;
        boolean own = classes.contains(element) || element.equals("int") || element.equals("boolean");
        Due.check("rule 3: type " + type + where(tree), own);
        return super.visitVariable(tree, unused);
    }

    // ---- rules 1, 11: methods

    @Override
    public Void visitMethod(MethodTree tree, Void unused) {
        LineMap lines = unit.getLineMap();
        long from = lines.getLineNumber(positions.getStartPosition(unit, tree));
        long to = lines.getLineNumber(positions.getEndPosition(unit, tree));
        Due.check("rule 11: some sixty lines" + where(tree), to - from < 60);
        Due.check("rule 11: seven parameters" + where(tree), tree.getParameters().size() <= 7);
        String answer = tree.getReturnType() == null ? "void" : tree.getReturnType().toString();
        Due.check("rule 3: answers " + answer + where(tree), Set.of("void", "int", "boolean").contains(answer));
        calls.computeIfAbsent(tree.getName().toString(), name -> new TreeSet<>());
        inside = tree;
        super.visitMethod(tree, unused);
        inside = null;
        return null;
    }

    // ---- rule 12: objects are made in constructors and with fields alone

    @Override
    public Void visitNewClass(NewClassTree tree, Void unused) {
        Due.check("rule 2: no anonymous class" + where(tree), tree.getClassBody() == null);
        Due.check("rule 4: own classes" + where(tree), classes.contains(tree.getIdentifier().toString()));
        Due.check("rule 12: made by a constructor" + where(tree), mayMake());
        return super.visitNewClass(tree, unused);
    }

    @Override
    public Void visitNewArray(NewArrayTree tree, Void unused) {
        Due.check("rule 3: of one dimension" + where(tree), tree.getDimensions().size() <= 1);
        Due.check("rule 12: made by a constructor" + where(tree), mayMake());
        return super.visitNewArray(tree, unused);
    }

    private boolean mayMake() {
        return inside == null || inside.getReturnType() == null;
    }

    // ---- rule 4: what is called; rules 8 and 11: how deep

    @Override
    public Void visitMethodInvocation(MethodInvocationTree tree, Void unused) {
        String called = tree.getMethodSelect().toString();
        String name = tree.getMethodSelect() instanceof MemberSelectTree select ? select.getIdentifier().toString() : called;
        boolean library = LIBRARY.contains(called);
        boolean constructor = called.equals("super");
        Due.check("rule 4: calls " + called + where(tree), library || constructor || methods.contains(name));
        if (inside != null && !library && !constructor) {
            calls.get(inside.getName().toString()).add(name);
        }
        return super.visitMethodInvocation(tree, unused);
    }

    /** Methods of one name count as one here, so a chain may look longer than it is, never shorter. */
    private void callsHaveAnEnd() {
        Map<String, Integer> known = new HashMap<>();
        for (String name : calls.keySet()) {
            int deep = depth(name, known, new HashSet<>());
            Due.check("rules 8, 11: no recursion, eight calls deep: " + name + " " + deep, deep <= 8);
        }
    }

    private int depth(String name, Map<String, Integer> known, Set<String> open) {
        if (known.containsKey(name)) {
            return known.get(name);
        }
        if (!open.add(name)) {
            return 1000;
        }
        int deepest = 0;
        for (String next : calls.getOrDefault(name, Set.of())) {
            deepest = Math.max(deepest, depth(next, known, open));
        }
        open.remove(name);
        known.put(name, deepest + 1);
        return deepest + 1;
    }

    // ---- rule 9: loops

    /** Each loop counts a number of its own by one, which nothing else in it changes. */
    @Override
    public Void visitForLoop(ForLoopTree tree, Void unused) {
        boolean counts = tree.getInitializer().size() == 1 && tree.getUpdate().size() == 1 && tree.getCondition() != null
            && tree.getInitializer().get(0) instanceof VariableTree;
        Due.check("rule 9: a counter, a bound, a step" + where(tree), counts);
        if (counts) {
            String counter = ((VariableTree) tree.getInitializer().get(0)).getName().toString();
            String step = tree.getUpdate().get(0).toString();
            boolean up = step.startsWith(counter + "++");
            Due.check("rule 9: by one: " + step + where(tree), up || step.startsWith(counter + "--"));
            String condition = tree.getCondition().toString();
            String bound = counter + (up ? " <" : " >");
            Due.check("rule 9: against a bound: " + condition + where(tree), condition.startsWith(bound));
            Due.check("rule 9: not changed within" + where(tree), !changedIn(tree.getStatement(), counter));
        }
        return super.visitForLoop(tree, unused);
    }

    private static boolean changedIn(StatementTree body, String counter) {
        boolean[] found = {false};
        new TreeScanner<Void, Void>() {
            private void look(ExpressionTree target) {
                found[0] |= target instanceof IdentifierTree name && name.getName().contentEquals(counter);
            }

            @Override
            public Void visitAssignment(AssignmentTree tree, Void unused) {
                look(tree.getVariable());
                return super.visitAssignment(tree, unused);
            }

            @Override
            public Void visitCompoundAssignment(CompoundAssignmentTree tree, Void unused) {
                look(tree.getVariable());
                return super.visitCompoundAssignment(tree, unused);
            }

            @Override
            public Void visitUnary(UnaryTree tree, Void unused) {
                boolean changes = EnumSet.of(Tree.Kind.POSTFIX_INCREMENT, Tree.Kind.POSTFIX_DECREMENT,
                    Tree.Kind.PREFIX_INCREMENT, Tree.Kind.PREFIX_DECREMENT).contains(tree.getKind());
                if (changes) {
                    look(tree.getExpression());
                }
                return super.visitUnary(tree, unused);
            }
        }.scan(body, null);
        return found[0];
    }

    // ---- rule 5: arrays of constants are never changed

    @Override
    public Void visitAssignment(AssignmentTree tree, Void unused) {
        if (tree.getVariable() instanceof ArrayAccessTree access) {
            String array = access.getExpression().toString();
            Due.check("rule 5: " + array + " is no constant" + where(tree), !array.equals(array.toUpperCase()));
        }
        return super.visitAssignment(tree, unused);
    }
}
