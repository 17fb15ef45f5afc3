import com.sun.source.tree.AssertTree;
import com.sun.source.tree.BlockTree;
import com.sun.source.tree.ClassTree;
import com.sun.source.tree.CompilationUnitTree;
import com.sun.source.tree.DoWhileLoopTree;
import com.sun.source.tree.EnhancedForLoopTree;
import com.sun.source.tree.ExpressionTree;
import com.sun.source.tree.ForLoopTree;
import com.sun.source.tree.IdentifierTree;
import com.sun.source.tree.ImportTree;
import com.sun.source.tree.InstanceOfTree;
import com.sun.source.tree.LambdaExpressionTree;
import com.sun.source.tree.LiteralTree;
import com.sun.source.tree.MemberReferenceTree;
import com.sun.source.tree.MemberSelectTree;
import com.sun.source.tree.MethodInvocationTree;
import com.sun.source.tree.MethodTree;
import com.sun.source.tree.NewArrayTree;
import com.sun.source.tree.NewClassTree;
import com.sun.source.tree.SynchronizedTree;
import com.sun.source.tree.ThrowTree;
import com.sun.source.tree.Tree;
import com.sun.source.tree.TryTree;
import com.sun.source.tree.TypeCastTree;
import com.sun.source.tree.VariableTree;
import com.sun.source.tree.WhileLoopTree;
import com.sun.source.util.JavacTask;
import com.sun.source.util.SourcePositions;
import com.sun.source.util.TreeScanner;
import com.sun.source.util.Trees;
import java.io.IOException;
import java.nio.file.Path;
import java.util.HashMap;
import java.util.List;
import java.util.Map;
import java.util.Set;
import java.util.TreeSet;
import javax.lang.model.element.Modifier;
import javax.tools.JavaCompiler;
import javax.tools.StandardJavaFileManager;
import javax.tools.ToolProvider;

/** The rules of LANGUAGE.md that can be read off the class's text; this class needs still less than they allow. */
public final class LanguageTest extends TreeScanner<Void, Void> {
    private static final Set<String> IMPORTS = Set.of("java.util.Arrays", "java.util.NoSuchElementException");
    private static final Set<String> TYPES = Set.of("int", "long", "byte", "char", "boolean", "void", "String",
            "int[]", "byte[]", "NoSuchElementException", "IllegalArgumentException");
    private static final Set<String> CONSTANTS = Set.of("int", "long", "boolean", "char", "String");
    private static final Set<String> EXCEPTIONS = Set.of("NoSuchElementException", "IllegalArgumentException");
    private static final Set<String> LIBRARY = Set.of("Arrays.fill", "System.arraycopy", "Integer.bitCount", "Math.max",
            "Math.min", "Math.abs", "word.length", "word.charAt", "super");

    private final CompilationUnitTree unit;
    private final SourcePositions places;
    private final Set<String> classes = new TreeSet<>();
    private final Map<String, Set<String>> calls = new HashMap<>();
    private String method = null;
    private boolean isMaking = false;
    private int wrong = 0;

    private LanguageTest(CompilationUnitTree unit, SourcePositions places) {
        this.unit = unit;
        this.places = places;
    }

    public static void main(String[] args) throws IOException {
        JavaCompiler compiler = ToolProvider.getSystemJavaCompiler();
        try (StandardJavaFileManager files = compiler.getStandardFileManager(null, null, null)) {
            Path source = Path.of(System.getProperty("program"));
            JavacTask task = (JavacTask) compiler.getTask(null, files, null, List.of("-proc:none"), null,
                    files.getJavaFileObjects(source));
            CompilationUnitTree unit = task.parse().iterator().next();
            LanguageTest test = new LanguageTest(unit, Trees.instance(task).getSourcePositions());
            test.tryAll();
            System.exit(test.wrong > 0 ? 1 : 0);
        }
    }

    private void tryAll() {
        new TreeScanner<Void, Void>() {
            @Override
            public Void visitClass(ClassTree tree, Void none) {
                classes.add(tree.getSimpleName().toString());
                return super.visitClass(tree, none);
            }

            @Override
            public Void visitMethod(MethodTree tree, Void none) {
                calls.putIfAbsent(tree.getName().toString(), new TreeSet<>());
                return super.visitMethod(tree, none);
            }
        }.scan(unit, null);
        scan(unit, null);
        must(11, classes.size() <= 12, unit, "there are " + classes.size() + " classes");
        for (String name : calls.keySet()) {
            must(11, depth(name, 1) <= 8, unit, name + " calls more than eight deep, or itself");
        }
    }

    private void must(int rule, boolean holds, Tree tree, String text) {
        if (!holds) {
            wrong++;
            System.out.println("rule " + rule + ", line " + lineAt(places.getStartPosition(unit, tree)) + ": " + text);
        }
    }

    private long lineAt(long place) {
        return unit.getLineMap().getLineNumber(place);
    }

    /** How many calls stand open at most; a chain of nine is enough to know. */
    private int depth(String name, int open) {
        int most = open;
        for (String next : calls.getOrDefault(name, Set.of())) {
            most = Math.max(most, open > 8 ? open : depth(next, open + 1));
        }
        return most;
    }

    private boolean isKnownType(Tree type) {
        return type == null || TYPES.contains(type.toString()) || classes.contains(type.toString());
    }

    @Override
    public Void visitImport(ImportTree tree, Void none) {
        must(4, !tree.isStatic() && IMPORTS.contains(tree.getQualifiedIdentifier().toString()), tree, "an import");
        return null;
    }

    @Override
    public Void visitClass(ClassTree tree, Void none) {
        Set<Modifier> marks = tree.getModifiers().getFlags();
        boolean isOuter = tree.getSimpleName().contentEquals("ShoeHouse");
        must(1, marks.contains(isOuter ? Modifier.PUBLIC : Modifier.PRIVATE) && marks.contains(Modifier.FINAL), tree,
                "who sees the class");
        must(2, method == null && (isOuter || marks.contains(Modifier.STATIC)), tree, "a class that is not static");
        long fields = tree.getMembers().stream().filter(m -> m instanceof VariableTree v
                && !v.getModifiers().getFlags().contains(Modifier.STATIC)).count();
        must(11, fields <= 20, tree, "it has " + fields + " fields");
        for (Tree member : tree.getMembers()) {
            must(5, !(member instanceof BlockTree), member, "a block that initialises");
        }
        return super.visitClass(tree, none);
    }

    @Override
    public Void visitMethod(MethodTree tree, Void none) {
        long first = lineAt(places.getStartPosition(unit, tree));
        long last = lineAt(places.getEndPosition(unit, tree));
        must(11, last - first < 60, tree, "a method of " + (last - first + 1) + " lines");
        must(11, tree.getParameters().size() <= 7, tree, "more than seven parameters");
        must(3, isKnownType(tree.getReturnType()), tree, "the type " + tree.getReturnType());
        method = tree.getName().toString();
        isMaking = method.equals("<init>");
        super.visitMethod(tree, none);
        method = null;
        isMaking = false;
        return null;
    }

    @Override
    public Void visitVariable(VariableTree tree, Void none) {
        must(3, isKnownType(tree.getType()), tree, "the type " + tree.getType());
        Set<Modifier> marks = tree.getModifiers().getFlags();
        if (marks.contains(Modifier.STATIC)) {
            must(5, marks.contains(Modifier.FINAL) && CONSTANTS.contains(tree.getType().toString()), tree,
                    "a static field that is no constant");
        }
        return super.visitVariable(tree, none);
    }

    @Override
    public Void visitMethodInvocation(MethodInvocationTree tree, Void none) {
        ExpressionTree select = tree.getMethodSelect();
        String name = select instanceof MemberSelectTree m ? m.getIdentifier().toString() : select.toString();
        boolean isLibrary = LIBRARY.contains(select.toString());
        must(4, isLibrary || calls.containsKey(name), tree, "a call of " + select);
        must(12, !isMaking || isLibrary || name.equals("setFirstLaw"), tree, "a constructor calls " + name);
        if (method != null && calls.containsKey(method)) {
            calls.get(method).add(isLibrary ? select.toString() : name);
        }
        return super.visitMethodInvocation(tree, none);
    }

    @Override
    public Void visitThrow(ThrowTree tree, Void none) {
        must(6, !isMaking, tree, "a throw in a constructor");
        boolean isPlain = tree.getExpression() instanceof NewClassTree made
                && EXCEPTIONS.contains(made.getIdentifier().toString())
                && made.getArguments().stream().allMatch(a -> a instanceof LiteralTree);
        must(6, isPlain, tree, "what is thrown");
        return null;
    }

    @Override
    public Void visitNewClass(NewClassTree tree, Void none) {
        must(12, isMaking || method == null, tree, "an object made outside a constructor");
        must(2, tree.getClassBody() == null, tree, "a class without a name");
        return super.visitNewClass(tree, none);
    }

    @Override
    public Void visitNewArray(NewArrayTree tree, Void none) {
        must(12, isMaking || method == null, tree, "a row made outside a constructor");
        return super.visitNewArray(tree, none);
    }

    @Override
    public Void visitLiteral(LiteralTree tree, Void none) {
        if (tree.getValue() instanceof String text) {
            must(4, text.chars().allMatch(c -> c >= 1 && c <= 127), tree, "a text's sign above 127");
        }
        must(3, !(tree.getValue() instanceof Double) && !(tree.getValue() instanceof Float), tree, "a double");
        return null;
    }

    @Override
    public Void visitTypeCast(TypeCastTree tree, Void none) {
        must(6, tree.getType().toString().equals("byte"), tree, "a cast");
        return super.visitTypeCast(tree, none);
    }

    @Override
    public Void visitForLoop(ForLoopTree tree, Void none) {
        must(9, tree.getCondition() != null, tree, "a loop without an end");
        return super.visitForLoop(tree, none);
    }

    @Override
    public Void visitWhileLoop(WhileLoopTree tree, Void none) {
        must(9, !(tree.getCondition().toString().contains("true")), tree, "a loop without an end");
        return super.visitWhileLoop(tree, none);
    }

    @Override
    public Void visitDoWhileLoop(DoWhileLoopTree tree, Void none) {
        must(9, false, tree, "a do loop, of which the class has no need");
        return null;
    }

    @Override
    public Void visitEnhancedForLoop(EnhancedForLoopTree tree, Void none) {
        must(12, false, tree, "a loop over a list or row, of which the class has no need");
        return null;
    }

    @Override
    public Void visitTry(TryTree tree, Void none) {
        must(6, false, tree, "a try");
        return null;
    }

    @Override
    public Void visitLambdaExpression(LambdaExpressionTree tree, Void none) {
        must(2, false, tree, "a lambda");
        return null;
    }

    @Override
    public Void visitMemberReference(MemberReferenceTree tree, Void none) {
        must(2, false, tree, "a method reference");
        return null;
    }

    @Override
    public Void visitInstanceOf(InstanceOfTree tree, Void none) {
        must(6, false, tree, "an instanceof, of which the class has no need");
        return null;
    }

    @Override
    public Void visitSynchronized(SynchronizedTree tree, Void none) {
        must(6, false, tree, "synchronized");
        return null;
    }

    @Override
    public Void visitAssert(AssertTree tree, Void none) {
        must(6, false, tree, "assert");
        return null;
    }

    @Override
    public Void visitIdentifier(IdentifierTree tree, Void none) {
        must(13, !Set.of("Thread", "Random", "Runtime", "Object").contains(tree.getName().toString()), tree,
                "the name " + tree.getName());
        return null;
    }
}
