import com.sun.source.tree.BlockTree;
import com.sun.source.tree.ClassTree;
import com.sun.source.tree.CompilationUnitTree;
import com.sun.source.tree.ExpressionTree;
import com.sun.source.tree.ForLoopTree;
import com.sun.source.tree.LineMap;
import com.sun.source.tree.MethodInvocationTree;
import com.sun.source.tree.MethodTree;
import com.sun.source.tree.NewArrayTree;
import com.sun.source.tree.NewClassTree;
import com.sun.source.tree.Tree;
import com.sun.source.tree.VariableTree;
import com.sun.source.util.JavacTask;
import com.sun.source.util.TreePath;
import com.sun.source.util.TreePathScanner;
import com.sun.source.util.Trees;
import java.io.IOException;
import java.nio.file.Path;
import java.util.EnumSet;
import java.util.HashMap;
import java.util.Map;
import java.util.Set;
import java.util.TreeSet;
import javax.lang.model.element.Element;
import javax.lang.model.element.ElementKind;
import javax.lang.model.element.Modifier;
import javax.lang.model.element.VariableElement;
import javax.tools.JavaCompiler;
import javax.tools.StandardJavaFileManager;
import javax.tools.ToolProvider;

/**
 * The rules of LANGUAGE.md, read off the class as the compiler sees it. Where the class needs less than
 * a rule leaves, the test holds it to the less: no loop but for, no recursion, nothing made by a call.
 */
public final class LanguageTest extends TreePathScanner<Void, Void> {
    private static final Set<Tree.Kind> FORBIDDEN = EnumSet.of(
        Tree.Kind.THROW, Tree.Kind.TRY, Tree.Kind.CATCH, Tree.Kind.SYNCHRONIZED, Tree.Kind.ASSERT,
        Tree.Kind.LAMBDA_EXPRESSION, Tree.Kind.MEMBER_REFERENCE, Tree.Kind.PACKAGE, Tree.Kind.IMPORT,
        Tree.Kind.WHILE_LOOP, Tree.Kind.DO_WHILE_LOOP, Tree.Kind.ENHANCED_FOR_LOOP,
        Tree.Kind.TYPE_CAST, Tree.Kind.INSTANCE_OF, Tree.Kind.DIVIDE, Tree.Kind.DIVIDE_ASSIGNMENT);
    private static final Set<String> LIBRARY = Set.of("java.lang.Math.min", "java.lang.Math.max", "java.lang.System.arraycopy");
    private static final Set<String> TYPES = Set.of("int", "int[]", "int[][]", "boolean");
    private static final int MOST_PARAMETERS = 7, MOST_LINES = 60, MOST_DEEP = 8, MOST_CLASSES = 12, MOST_FIELDS = 20;
    private static final Checks checks = new Checks("LanguageTest");

    private final Trees trees;
    private final CompilationUnitTree unit;
    /** Of each method those that it calls. */
    private final Map<String, Set<String>> calls = new HashMap<>();
    private int classes;
    private int divisions;

    private LanguageTest(Trees trees, CompilationUnitTree unit) {
        this.trees = trees;
        this.unit = unit;
    }

    public static void main(String[] args) throws IOException {
        JavaCompiler compiler = ToolProvider.getSystemJavaCompiler();
        try (StandardJavaFileManager files = compiler.getStandardFileManager(null, null, null)) {
            Path source = Path.of(System.getProperty("source", "src/main/java/JudgesLists.java"));
            JavacTask task = (JavacTask) compiler.getTask(null, files, null, null, null, files.getJavaFileObjects(source));
            CompilationUnitTree unit = task.parse().iterator().next();
            task.analyze();
            new LanguageTest(Trees.instance(task), unit).all();
        }
        checks.end();
    }

    private void all() {
        checks.under("rule 1");
        checks.due("classes of the file that are not inside another one", unit.getTypeDecls().size(), 1);
        scan(unit, null);
        checks.under("rule 11");
        checks.holds(classes + " classes", classes <= MOST_CLASSES);
        checks.under("rule 7");
        checks.due("divisions, which ROUNDS by h are", divisions, 1);
        checks.under("rules 8 and 11");
        for (String method : new TreeSet<>(calls.keySet())) {
            int deep = deepest(method, 1);
            checks.holds(method + " goes " + deep + " deep", deep <= MOST_DEEP);
        }
    }

    /** How deep calls go; one that comes back to itself goes too deep. */
    private int deepest(String method, int depth) {
        int most = depth;
        for (String called : calls.getOrDefault(method, Set.of())) {
            most = Math.max(most, depth > MOST_DEEP ? depth : deepest(called, depth + 1));
        }
        return most;
    }

    @Override
    public Void scan(Tree tree, Void none) {
        if (tree != null) {
            checks.under("rules 1, 2, 6, 7, 9, line " + lineOf(tree, false));
            checks.holds("no " + tree.getKind(), !FORBIDDEN.contains(tree.getKind()));
            if (tree.getKind() == Tree.Kind.REMAINDER || tree.getKind() == Tree.Kind.REMAINDER_ASSIGNMENT) {
                divisions++;
            }
        }
        return super.scan(tree, none);
    }

    @Override
    public Void visitClass(ClassTree tree, Void none) {
        classes++;
        checks.under("rule 2, " + tree.getSimpleName());
        Tree around = getCurrentPath().getParentPath().getLeaf();
        boolean outside = around == unit;
        checks.holds("stands in the file or in a class", outside || around.getKind() == Tree.Kind.CLASS);
        checks.holds("is final, and static if it is inside another one", isMarked(tree.getModifiers().getFlags(), outside));
        long fields = 0;
        for (Tree member : tree.getMembers()) {
            if (member instanceof VariableTree field) {
                fields += field.getModifiers().getFlags().contains(Modifier.STATIC) ? 0 : 1;
            }
            checks.under("rule 5, " + tree.getSimpleName());
            checks.holds("no block that begins it", !(member instanceof BlockTree));
        }
        checks.under("rule 11, " + tree.getSimpleName());
        checks.holds(fields + " fields", fields <= MOST_FIELDS);
        return super.visitClass(tree, none);
    }

    private static boolean isMarked(Set<Modifier> flags, boolean outside) {
        return flags.contains(Modifier.FINAL) && flags.contains(Modifier.STATIC) != outside;
    }

    @Override
    public Void visitVariable(VariableTree tree, Void none) {
        Element element = trees.getElement(getCurrentPath());
        String type = element.asType().toString();
        checks.under("rule 3, " + tree.getName());
        checks.holds("the type is " + type, TYPES.contains(type) || type.startsWith("JudgesLists."));
        if (element.getKind() == ElementKind.FIELD && element.getModifiers().contains(Modifier.STATIC)) {
            checks.under("rule 5, " + tree.getName());
            checks.holds("is a constant", ((VariableElement) element).getConstantValue() != null);
        }
        return super.visitVariable(tree, none);
    }

    @Override
    public Void visitMethod(MethodTree tree, Void none) {
        checks.under("rule 11, " + tree.getName());
        checks.holds(tree.getParameters().size() + " parameters", tree.getParameters().size() <= MOST_PARAMETERS);
        long lines = lineOf(tree, true) - lineOf(tree, false) + 1;
        checks.holds(lines + " lines", lines <= MOST_LINES);
        calls.computeIfAbsent(nameOf(trees.getElement(getCurrentPath())), method -> new TreeSet<>());
        return super.visitMethod(tree, none);
    }

    @Override
    public Void visitMethodInvocation(MethodInvocationTree tree, Void none) {
        Element called = trees.getElement(getCurrentPath());
        String name = nameOf(called);
        boolean isOwn = name.startsWith("JudgesLists.");
        // Each constructor first calls that of Object.
        if (called.getKind() != ElementKind.CONSTRUCTOR) {
            checks.under("rules 4 and 13");
            checks.holds(name + " may be called", isOwn || LIBRARY.contains(name));
            noteCall(name);
        }
        return super.visitMethodInvocation(tree, none);
    }

    @Override
    public Void visitNewClass(NewClassTree tree, Void none) {
        checks.under("rule 2");
        checks.holds("no class without a name", tree.getClassBody() == null);
        noteCall(nameOf(trees.getElement(getCurrentPath())));
        madeWithTheObject(tree);
        return super.visitNewClass(tree, none);
    }

    @Override
    public Void visitNewArray(NewArrayTree tree, Void none) {
        checks.under("rule 7");
        for (ExpressionTree length : tree.getDimensions()) {
            Element element = trees.getElement(new TreePath(getCurrentPath(), length));
            checks.holds("the length of an array is a constant: " + length,
                element instanceof VariableElement constant && constant.getConstantValue() != null);
        }
        madeWithTheObject(tree);
        return super.visitNewArray(tree, none);
    }

    @Override
    public Void visitForLoop(ForLoopTree tree, Void none) {
        checks.under("rule 9, line " + lineOf(tree, false));
        checks.due("counters of the loop", tree.getInitializer().size(), 1);
        checks.due("steps of the loop", tree.getUpdate().size(), 1);
        String counter = ((VariableTree) tree.getInitializer().get(0)).getName().toString();
        String condition = String.valueOf(tree.getCondition());
        checks.holds("a bound of the counter: " + condition, condition.matches(counter + " (<|<=|>|>=) .*"));
        checks.holds("the counter is changed by its step alone",
            !tree.getStatement().toString().matches("(?s).*\\b" + counter + "(\\+\\+|--| [-+*/|&^]?= ).*"));
        return super.visitForLoop(tree, none);
    }

    private void madeWithTheObject(Tree tree) {
        checks.under("rule 12, line " + lineOf(tree, false));
        MethodTree method = methodAround();
        checks.holds("made with the object, not by a call", method == null || method.getReturnType() == null);
    }

    private MethodTree methodAround() {
        for (Tree around : getCurrentPath()) {
            if (around instanceof MethodTree method) {
                return method;
            }
        }
        return null;
    }

    private void noteCall(String name) {
        for (TreePath path = getCurrentPath(); path != null; path = path.getParentPath()) {
            if (path.getLeaf() instanceof MethodTree) {
                calls.computeIfAbsent(nameOf(trees.getElement(path)), method -> new TreeSet<>()).add(name);
            }
        }
    }

    private static String nameOf(Element method) {
        return method.getEnclosingElement() + "." + method.getSimpleName();
    }

    private long lineOf(Tree tree, boolean end) {
        LineMap lines = unit.getLineMap();
        long position = end ? trees.getSourcePositions().getEndPosition(unit, tree)
            : trees.getSourcePositions().getStartPosition(unit, tree);
        return position < 0 ? 0 : lines.getLineNumber(position);
    }
}
