import com.sun.source.tree.AssertTree;
import com.sun.source.tree.BlockTree;
import com.sun.source.tree.ClassTree;
import com.sun.source.tree.CompilationUnitTree;
import com.sun.source.tree.DoWhileLoopTree;
import com.sun.source.tree.ExpressionTree;
import com.sun.source.tree.ForLoopTree;
import com.sun.source.tree.IdentifierTree;
import com.sun.source.tree.ImportTree;
import com.sun.source.tree.LambdaExpressionTree;
import com.sun.source.tree.LiteralTree;
import com.sun.source.tree.MemberReferenceTree;
import com.sun.source.tree.MemberSelectTree;
import com.sun.source.tree.MethodInvocationTree;
import com.sun.source.tree.MethodTree;
import com.sun.source.tree.NewArrayTree;
import com.sun.source.tree.NewClassTree;
import com.sun.source.tree.SynchronizedTree;
import com.sun.source.tree.ThrowTree;
import com.sun.source.tree.Tree;
import com.sun.source.tree.TryTree;
import com.sun.source.tree.VariableTree;
import com.sun.source.tree.WhileLoopTree;
import com.sun.source.util.JavacTask;
import com.sun.source.util.TreeScanner;
import com.sun.source.util.Trees;
import java.io.IOException;
import java.nio.file.Path;
import java.util.HashMap;
import java.util.Map;
import java.util.Set;
import java.util.TreeSet;
import javax.lang.model.element.Modifier;
import javax.tools.JavaCompiler;
import javax.tools.StandardJavaFileManager;
import javax.tools.ToolProvider;

/**
 * The program keeps to LANGUAGE.md, as far as its text shows. It uses less than the rules leave (no try,
 * no object made by a call but what it throws, no recursion), and that is what is asked here.
 */
public final class LanguageTest extends TreeScanner<Void, Void> {
    private static final Path PROGRAM = Path.of("src/main/java/TrimmedMachine.java");
    private static final Set<String> EXCEPTIONS = Set.of("IllegalStateException", "IllegalArgumentException",
        "UnsupportedOperationException", "NoSuchElementException");
    private static final Set<String> LIBRARY = Set.of("Math.max", "Integer.bitCount", "System.arraycopy");
    private static final Set<String> PLAIN_TYPES = Set.of("int", "long", "boolean");

    private final CompilationUnitTree unit;
    private final Trees trees;
    private final Set<String> classes = new TreeSet<>();
    private final Map<String, Set<String>> callsOf = new HashMap<>();
    private String method = "";

    private LanguageTest(CompilationUnitTree unit, Trees trees) {
        this.unit = unit;
        this.trees = trees;
    }

    public static void main(String[] args) throws IOException {
        JavaCompiler compiler = ToolProvider.getSystemJavaCompiler();
        try (StandardJavaFileManager files = compiler.getStandardFileManager(null, null, null)) {
            JavacTask task = (JavacTask) compiler.getTask(null, files, null, null, null,
                files.getJavaFileObjects(PROGRAM));
            CompilationUnitTree unit = task.parse().iterator().next();
            new LanguageTest(unit, Trees.instance(task)).check();
        }
        Check.finish();
    }

    private void check() {
        Check.same("classes in the file", unit.getTypeDecls().size(), 1);
        Check.same("the file has a package", unit.getPackageName() != null, false);
        noteClasses();
        scan(unit, null);
        Check.same("rule 11: classes are at most twelve", classes.size() <= 12, true);
        for (String name : callsOf.keySet()) {
            Check.same("rule 4: " + name + " calls the program's own methods, and in the library " + LIBRARY,
                callsOf.keySet().containsAll(callsOf.get(name)), true);
            Check.same("rules 8 and 11: calls from " + name + " go at most eight deep", depthOf(name, 1) <= 8, true);
        }
    }

    private void noteClasses() {
        new TreeScanner<Void, Void>() {
            @Override
            public Void visitClass(ClassTree tree, Void nothing) {
                classes.add(tree.getSimpleName().toString());
                return super.visitClass(tree, null);
            }
        }.scan(unit, null);
    }

    /** How many calls stand open at most; methods of one name count as one, so it is never too few. */
    private int depthOf(String name, int open) {
        int deepest = open;
        for (String called : callsOf.getOrDefault(name, Set.of())) {
            if (open < 20) {
                deepest = Math.max(deepest, depthOf(called, open + 1));
            }
        }
        return deepest;
    }

    private void refuse(String rule, Tree tree) {
        long line = lineAt(trees.getSourcePositions().getStartPosition(unit, tree));
        Check.same(rule + " (line " + line + ")", tree, "nothing");
    }

    private long lineAt(long position) {
        return unit.getLineMap().getLineNumber(position);
    }

    private static boolean isStatic(VariableTree field) {
        return field.getModifiers().getFlags().contains(Modifier.STATIC);
    }

    @Override
    public Void visitImport(ImportTree tree, Void nothing) {
        Check.same("rule 4: import", tree.getQualifiedIdentifier().toString(), "java.util.NoSuchElementException");
        return null;
    }

    @Override
    public Void visitClass(ClassTree tree, Void nothing) {
        int fields = 0;
        for (Tree member : tree.getMembers()) {
            if (member instanceof BlockTree) {
                refuse("rule 5: a block that initialises", member);
            }
            if (member instanceof VariableTree field) {
                fields += isStatic(field) ? 0 : 1;
                checkField(field);
            }
        }
        Check.same("rule 11: fields of " + tree.getSimpleName() + " are at most twenty", fields <= 20, true);
        return super.visitClass(tree, null);
    }

    private void checkField(VariableTree field) {
        if (isStatic(field)) {
            Check.same("rule 5: " + field.getName() + " is final",
                field.getModifiers().getFlags().contains(Modifier.FINAL), true);
            Check.same("rule 5: " + field.getName() + " is a plain constant",
                PLAIN_TYPES.contains(field.getType().toString()), true);
        }
    }

    @Override
    public Void visitVariable(VariableTree tree, Void nothing) {
        String type = tree.getType().toString();
        String single = type.endsWith("[]") ? type.substring(0, type.length() - 2) : type;
        Check.same("rule 3: the type " + type + " of " + tree.getName(),
            PLAIN_TYPES.contains(single) || classes.contains(type), true);
        return super.visitVariable(tree, null);
    }

    @Override
    public Void visitMethod(MethodTree tree, Void nothing) {
        method = tree.getName().toString();
        callsOf.computeIfAbsent(method, name -> new TreeSet<>());
        Check.same("rule 11: parameters of " + method + " are at most seven", tree.getParameters().size() <= 7, true);
        long lines = lineAt(trees.getSourcePositions().getEndPosition(unit, tree))
            - lineAt(trees.getSourcePositions().getStartPosition(unit, tree)) + 1;
        Check.same("rule 11: lines of " + method + " are at most sixty", lines <= 60, true);
        super.visitMethod(tree, null);
        method = "";
        return null;
    }

    @Override
    public Void visitMethodInvocation(MethodInvocationTree tree, Void nothing) {
        ExpressionTree called = tree.getMethodSelect();
        String text = called.toString();
        String name = called instanceof MemberSelectTree select ? select.getIdentifier().toString() : text;
        if (!LIBRARY.contains(text) && !name.equals("super")) {
            Check.same("rule 12: a constructor calls " + name, method.equals("<init>"), false);
            callsOf.get(method).add(name);
        }
        return super.visitMethodInvocation(tree, null);
    }

    @Override
    public Void visitIdentifier(IdentifierTree tree, Void nothing) {
        String name = tree.getName().toString();
        if (Character.isUpperCase(name.charAt(0)) && !name.equals(name.toUpperCase())) {
            boolean known = classes.contains(name) || EXCEPTIONS.contains(name)
                || LIBRARY.stream().anyMatch(call -> call.startsWith(name + "."));
            Check.same("rule 4: " + name + " may be used", known, true);
        }
        return null;
    }

    @Override
    public Void visitThrow(ThrowTree tree, Void nothing) {
        Check.same("rule 6: a constructor throws", method.equals("<init>"), false);
        if (tree.getExpression() instanceof NewClassTree made && EXCEPTIONS.contains(made.getIdentifier().toString())
                && made.getArguments().stream().allMatch(text -> text instanceof LiteralTree)) {
            return null;
        }
        refuse("rule 6: what is thrown", tree);
        return null;
    }

    @Override
    public Void visitNewClass(NewClassTree tree, Void nothing) {
        Check.same("rule 12: " + method + " makes " + tree, method, "");
        return super.visitNewClass(tree, null);
    }

    @Override
    public Void visitNewArray(NewArrayTree tree, Void nothing) {
        Check.same("rule 12: " + method + " makes " + tree, method, "");
        Check.same("rule 3: dimensions of " + tree, tree.getDimensions().size(), 1);
        return super.visitNewArray(tree, null);
    }

    @Override
    public Void visitForLoop(ForLoopTree tree, Void nothing) {
        checkBound(tree.getCondition());
        return super.visitForLoop(tree, null);
    }

    @Override
    public Void visitWhileLoop(WhileLoopTree tree, Void nothing) {
        checkBound(tree.getCondition());
        return super.visitWhileLoop(tree, null);
    }

    @Override
    public Void visitDoWhileLoop(DoWhileLoopTree tree, Void nothing) {
        checkBound(tree.getCondition());
        return super.visitDoWhileLoop(tree, null);
    }

    /** Each loop here counts up to a bound that its condition names first. */
    private void checkBound(ExpressionTree condition) {
        Check.same("rule 9: a bound stands first in " + condition,
            condition.toString().matches("\\(?\\w+ < [\\w.]+( &&.*|\\))?"), true);
    }

    @Override
    public Void visitLambdaExpression(LambdaExpressionTree tree, Void nothing) {
        refuse("rule 2: a lambda", tree);
        return null;
    }

    @Override
    public Void visitMemberReference(MemberReferenceTree tree, Void nothing) {
        refuse("rule 2: a method reference", tree);
        return null;
    }

    @Override
    public Void visitTry(TryTree tree, Void nothing) {
        refuse("rule 6: try", tree);
        return null;
    }

    @Override
    public Void visitSynchronized(SynchronizedTree tree, Void nothing) {
        refuse("rule 6: synchronized", tree);
        return null;
    }

    @Override
    public Void visitAssert(AssertTree tree, Void nothing) {
        refuse("rule 6: assert", tree);
        return null;
    }
}
