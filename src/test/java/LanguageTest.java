import com.sun.source.tree.AssertTree;
import com.sun.source.tree.BinaryTree;
import com.sun.source.tree.BlockTree;
import com.sun.source.tree.ClassTree;
import com.sun.source.tree.CompilationUnitTree;
import com.sun.source.tree.ExpressionTree;
import com.sun.source.tree.IdentifierTree;
import com.sun.source.tree.ImportTree;
import com.sun.source.tree.InstanceOfTree;
import com.sun.source.tree.LambdaExpressionTree;
import com.sun.source.tree.LiteralTree;
import com.sun.source.tree.MemberReferenceTree;
import com.sun.source.tree.MemberSelectTree;
import com.sun.source.tree.MethodInvocationTree;
import com.sun.source.tree.MethodTree;
import com.sun.source.tree.NewArrayTree;
import com.sun.source.tree.NewClassTree;
import com.sun.source.tree.SynchronizedTree;
import com.sun.source.tree.ThrowTree;
import com.sun.source.tree.Tree;
import com.sun.source.tree.TryTree;
import com.sun.source.tree.TypeCastTree;
import com.sun.source.tree.VariableTree;
import com.sun.source.util.JavacTask;
import com.sun.source.util.SourcePositions;
import com.sun.source.util.TreeScanner;
import com.sun.source.util.Trees;
import java.io.IOException;
import java.nio.file.Path;
import java.util.List;
import java.util.Map;
import java.util.Set;
import java.util.TreeMap;
import java.util.TreeSet;
import javax.lang.model.element.Modifier;
import javax.tools.JavaCompiler;
import javax.tools.StandardJavaFileManager;
import javax.tools.ToolProvider;

/**
 * What the class may use of Java, by the rules of LANGUAGE.md, looked at in its source. It allows
 * less than the rules do: just what the class needs today.
 */
public final class LanguageTest extends TreeScanner<Void, Void> {

    private static final Path SOURCE = Path.of("src/main/java/DrillCount.java");
    private static final int MOST_PARAMETERS = 7;
    private static final int MOST_LINES = 60;
    private static final int MOST_CLASSES = 12;
    private static final int MOST_FIELDS = 20;
    private static final int MOST_CALLS_DEEP = 8;

    /** Rule 4: functions of the library, not its constants. */
    private static final Set<String> LIBRARY =
            Set.of("Math.abs", "Math.max", "Math.min", "Integer.bitCount", "Long.bitCount");
    private static final Set<String> LIBRARY_CLASSES = Set.of("Math", "Integer", "Long");
    /** Rule 8: its depth is carried as an argument and never above 12. */
    private static final Set<String> RECURSIVE = Set.of("choose");
    private static final Set<String> THROWING = Set.of("numberOf", "bin", "middle");

    private static final Check CHECK = new Check();

    private final CompilationUnitTree unit;
    private final SourcePositions places;
    private final Set<String> classes = new TreeSet<>();
    private final Set<String> publicMethods = new TreeSet<>();
    /** Of each method's name the names of the methods of the class that it calls. */
    private final Map<String, Set<String>> calls = new TreeMap<>();
    private String method = "";

    private LanguageTest(CompilationUnitTree unit, SourcePositions places) {
        this.unit = unit;
        this.places = places;
    }

    public static void main(String[] args) throws IOException {
        JavaCompiler compiler = ToolProvider.getSystemJavaCompiler();
        try (StandardJavaFileManager files = compiler.getStandardFileManager(null, null, null)) {
            JavacTask task = (JavacTask) compiler.getTask(null, files, null,
                    List.of("--release", "17"), null, files.getJavaFileObjects(SOURCE));
            CompilationUnitTree unit = task.parse().iterator().next();
            LanguageTest test = new LanguageTest(unit, Trees.instance(task).getSourcePositions());
            test.collect();
            test.scan(unit, null);
            test.callsAreNotDeep();
        }
        CHECK.end("LanguageTest");
    }

    /** The names of all classes and methods are known before the bodies are looked at. */
    private void collect() {
        new TreeScanner<Void, Void>() {
            @Override
            public Void visitClass(ClassTree tree, Void none) {
                classes.add(tree.getSimpleName().toString());
                return super.visitClass(tree, none);
            }

            @Override
            public Void visitMethod(MethodTree tree, Void none) {
                calls.put(tree.getName().toString(), new TreeSet<>());
                if (tree.getModifiers().getFlags().contains(Modifier.PUBLIC)) {
                    publicMethods.add(tree.getName().toString());
                }
                return super.visitMethod(tree, none);
            }
        }.scan(unit, null);
        calls.remove("<init>");
        publicMethods.remove("<init>");
        CHECK.same("rule 1: methods of the face", publicMethods.size(), 41);
        CHECK.yes("rule 11: classes", classes.size() <= MOST_CLASSES);
        CHECK.yes("no package line", unit.getPackage() == null);
        CHECK.same("the file has one class", unit.getTypeDecls().size(), 1);
    }

    private void rule(int rule, boolean kept, Tree tree) {
        CHECK.note(kept, "rule " + rule + " is broken in line " + line(start(tree)) + ": " + tree);
    }

    private long start(Tree tree) {
        return places.getStartPosition(unit, tree);
    }

    private long line(long position) {
        return unit.getLineMap().getLineNumber(position);
    }

    // ---- classes, fields, methods

    @Override
    public Void visitImport(ImportTree tree, Void none) {
        String name = tree.getQualifiedIdentifier().toString();
        rule(4, name.equals("java.util.NoSuchElementException"), tree);
        return null;
    }

    @Override
    public Void visitClass(ClassTree tree, Void none) {
        boolean outer = tree.getSimpleName().contentEquals("DrillCount");
        Set<Modifier> due = outer ? Set.of(Modifier.PUBLIC, Modifier.FINAL)
                : Set.of(Modifier.PRIVATE, Modifier.STATIC, Modifier.FINAL);
        rule(outer ? 1 : 2, tree.getModifiers().getFlags().equals(due), tree);
        int fields = 0;
        for (Tree member : tree.getMembers()) {
            rule(5, !(member instanceof BlockTree), member);
            if (member instanceof VariableTree field && !isConstant(field)) {
                fields++;
                rule(1, !outer || isPrivate(field), field);
            }
        }
        rule(11, fields <= MOST_FIELDS, tree);
        return super.visitClass(tree, none);
    }

    private boolean isPrivate(VariableTree field) {
        return field.getModifiers().getFlags().contains(Modifier.PRIVATE);
    }

    /** Rule 5: what is static is final, and here a number. */
    private boolean isConstant(VariableTree field) {
        Set<Modifier> flags = field.getModifiers().getFlags();
        if (!flags.contains(Modifier.STATIC)) {
            return false;
        }
        rule(5, flags.contains(Modifier.FINAL) && field.getType().toString().equals("int"), field);
        return true;
    }

    @Override
    public Void visitMethod(MethodTree tree, Void none) {
        method = tree.getName().toString();
        boolean open = tree.getModifiers().getFlags().contains(Modifier.PUBLIC);
        rule(1, open || method.equals("<init>") || !publicMethods.contains(method), tree);
        rule(6, THROWING.contains(method) != tree.getThrows().isEmpty(), tree);
        rule(11, tree.getParameters().size() <= MOST_PARAMETERS, tree);
        long lines = line(places.getEndPosition(unit, tree)) - line(start(tree)) + 1;
        rule(11, lines <= MOST_LINES, tree);
        super.visitMethod(tree, none);
        method = "";
        return null;
    }

    // ---- what stands in the bodies

    @Override
    public Void visitIdentifier(IdentifierTree tree, Void none) {
        String name = tree.getName().toString();
        boolean isClass = Character.isUpperCase(name.charAt(0)) && !name.equals(name.toUpperCase());
        rule(4, !isClass || classes.contains(name) || LIBRARY_CLASSES.contains(name)
                || name.equals("NoSuchElementException"), tree);
        return super.visitIdentifier(tree, none);
    }

    @Override
    public Void visitMemberSelect(MemberSelectTree tree, Void none) {
        boolean ofLibrary = LIBRARY_CLASSES.contains(tree.getExpression().toString());
        rule(4, !ofLibrary || LIBRARY.contains(tree.toString()), tree);
        return super.visitMemberSelect(tree, none);
    }

    @Override
    public Void visitMethodInvocation(MethodInvocationTree tree, Void none) {
        ExpressionTree called = tree.getMethodSelect();
        String name = called instanceof MemberSelectTree select
                ? select.getIdentifier().toString() : called.toString();
        boolean own = calls.containsKey(name);
        rule(4, own || LIBRARY.contains(called.toString()), tree);
        if (own && calls.containsKey(method)) {
            calls.get(method).add(name);
        }
        rule(12, !method.equals("<init>") || !own, tree);
        return super.visitMethodInvocation(tree, none);
    }

    @Override
    public Void visitNewClass(NewClassTree tree, Void none) {
        String name = tree.getIdentifier().toString();
        boolean thrown = name.equals("NoSuchElementException") && THROWING.contains(method);
        boolean made = classes.contains(name) && calls.get(method) == null;
        rule(12, thrown || made && tree.getClassBody() == null, tree);
        return super.visitNewClass(tree, none);
    }

    @Override
    public Void visitNewArray(NewArrayTree tree, Void none) {
        String type = String.valueOf(tree.getType());
        rule(3, Set.of("int", "long").contains(type) || classes.contains(type), tree);
        rule(3, tree.getDimensions().size() == 1, tree);
        rule(12, calls.get(method) == null, tree);
        return super.visitNewArray(tree, none);
    }

    @Override
    public Void visitThrow(ThrowTree tree, Void none) {
        rule(6, THROWING.contains(method), tree);
        rule(6, tree.getExpression().toString().startsWith("new NoSuchElementException("), tree);
        return super.visitThrow(tree, none);
    }

    @Override
    public Void visitBinary(BinaryTree tree, Void none) {
        rule(10, !isText(tree.getLeftOperand()) && !isText(tree.getRightOperand()), tree);
        return super.visitBinary(tree, none);
    }

    private static boolean isText(ExpressionTree tree) {
        return tree instanceof LiteralTree literal && literal.getValue() instanceof String;
    }

    @Override
    public Void visitTry(TryTree tree, Void none) {
        rule(6, false, tree);
        return null;
    }

    @Override
    public Void visitSynchronized(SynchronizedTree tree, Void none) {
        rule(6, false, tree);
        return null;
    }

    @Override
    public Void visitAssert(AssertTree tree, Void none) {
        rule(6, false, tree);
        return null;
    }

    @Override
    public Void visitTypeCast(TypeCastTree tree, Void none) {
        rule(6, false, tree);
        return null;
    }

    @Override
    public Void visitInstanceOf(InstanceOfTree tree, Void none) {
        rule(6, false, tree);
        return null;
    }

    @Override
    public Void visitLambdaExpression(LambdaExpressionTree tree, Void none) {
        rule(2, false, tree);
        return null;
    }

    @Override
    public Void visitMemberReference(MemberReferenceTree tree, Void none) {
        rule(2, false, tree);
        return null;
    }

    // ---- how deep calls go

    private void callsAreNotDeep() {
        for (String name : publicMethods) {
            int deep = depth(name, new TreeSet<>());
            CHECK.note(deep <= MOST_CALLS_DEEP, "rule 11: calls of " + name + " go " + deep + " deep");
        }
    }

    /** Methods of one name are taken together, so it is rather too much than too little. */
    private int depth(String name, Set<String> open) {
        int deepest = 0;
        open.add(name);
        for (String called : calls.get(name)) {
            if (open.contains(called)) {
                CHECK.yes("rule 8: " + called + " calls itself", RECURSIVE.contains(called));
            } else {
                deepest = Math.max(deepest, depth(called, open));
            }
        }
        open.remove(name);
        return deepest + 1;
    }
}
