import com.sun.source.tree.AssertTree;
import com.sun.source.tree.BinaryTree;
import com.sun.source.tree.ClassTree;
import com.sun.source.tree.CompilationUnitTree;
import com.sun.source.tree.ExpressionTree;
import com.sun.source.tree.ImportTree;
import com.sun.source.tree.InstanceOfTree;
import com.sun.source.tree.LambdaExpressionTree;
import com.sun.source.tree.LiteralTree;
import com.sun.source.tree.MemberReferenceTree;
import com.sun.source.tree.MethodInvocationTree;
import com.sun.source.tree.MethodTree;
import com.sun.source.tree.NewArrayTree;
import com.sun.source.tree.NewClassTree;
import com.sun.source.tree.SynchronizedTree;
import com.sun.source.tree.ThrowTree;
import com.sun.source.tree.Tree;
import com.sun.source.tree.TryTree;
import com.sun.source.tree.TypeCastTree;
import com.sun.source.tree.UnaryTree;
import com.sun.source.tree.VariableTree;
import com.sun.source.util.JavacTask;
import com.sun.source.util.SourcePositions;
import com.sun.source.util.TreePath;
import com.sun.source.util.TreePathScanner;
import com.sun.source.util.Trees;
import java.io.IOException;
import java.nio.file.Path;
import java.util.HashMap;
import java.util.List;
import java.util.Map;
import java.util.Set;
import java.util.TreeMap;
import java.util.TreeSet;
import javax.lang.model.element.Element;
import javax.lang.model.element.ElementKind;
import javax.lang.model.element.Modifier;
import javax.lang.model.type.TypeKind;
import javax.lang.model.type.TypeMirror;
import javax.tools.JavaCompiler;
import javax.tools.StandardJavaFileManager;
import javax.tools.ToolProvider;

/**
 * The rules of LANGUAGE.md that can be read off the source, by the compiler's own tree of it. Where the
 * class needs less than a rule allows, the test asks for the less: no recursion, no try, and nothing made
 * outside of constructors but exceptions.
 */
public final class LanguageTest extends TreePathScanner<Void, Void> {
    private static final Path SOURCE = Path.of("src/main/java/TrainTimetable.java");

    private static final Set<String> LIBRARY = Set.of("java.lang.Math.max", "java.lang.Math.min",
            "java.lang.Integer.bitCount", "java.lang.System.arraycopy", "java.util.Arrays.fill",
            "java.lang.String.length", "java.lang.String.charAt");

    private static final Set<String> EXCEPTIONS = Set.of("IllegalStateException", "IllegalArgumentException",
            "IndexOutOfBoundsException", "NoSuchElementException");

    private static final Set<String> TYPES = Set.of("int", "boolean", "double", "int[]", "byte[]", "java.lang.String");

    private static final Check check = new Check();

    private final Trees trees;
    private final CompilationUnitTree unit;
    private final Map<String, Set<String>> callees = new TreeMap<>();
    private final Map<String, Integer> depths = new HashMap<>();
    private final Set<String> faceMethods = new TreeSet<>();
    private int classes;

    private LanguageTest(Trees trees, CompilationUnitTree unit) {
        this.trees = trees;
        this.unit = unit;
    }

    public static void main(String[] args) throws IOException {
        JavaCompiler compiler = ToolProvider.getSystemJavaCompiler();
        try (StandardJavaFileManager files = compiler.getStandardFileManager(null, null, null)) {
            JavacTask task = (JavacTask) compiler.getTask(null, files, null, List.of("-proc:none"), null,
                    files.getJavaFileObjects(SOURCE));
            CompilationUnitTree unit = task.parse().iterator().next();
            task.analyze();
            LanguageTest test = new LanguageTest(Trees.instance(task), unit);
            test.scan(unit, null);
            test.finish();
        }
        check.end();
    }

    private void finish() {
        check.equal("rule 11: at most twelve classes", true, classes <= 12);
        check.equal("methods of the face", 32, faceMethods.size());
        for (String method : faceMethods) {
            check.equal("rule 11: " + method + " goes at most eight deep", true, depth(method, 1) <= 8);
        }
    }

    /** How many calls stand open at once below and with a method. */
    private int depth(String method, int open) {
        check.equal("no recursion at " + method, true, open < 100);
        if (open >= 100) {
            return 100;
        }
        Integer known = depths.get(method);
        if (known != null) {
            return known;
        }
        int deepest = 0;
        for (String callee : callees.getOrDefault(method, Set.of())) {
            deepest = Math.max(deepest, depth(callee, open + 1));
        }
        depths.put(method, deepest + 1);
        return deepest + 1;
    }

    private Element element() {
        return trees.getElement(getCurrentPath());
    }

    private static String name(Element method) {
        return method.getEnclosingElement() + "." + method.getSimpleName();
    }

    private static boolean isOwn(Element member) {
        return member.getEnclosingElement().toString().startsWith("TrainTimetable");
    }

    private String line(Tree tree) {
        SourcePositions positions = trees.getSourcePositions();
        return "line " + unit.getLineMap().getLineNumber(positions.getStartPosition(unit, tree)) + ": ";
    }

    private long lines(Tree tree) {
        SourcePositions positions = trees.getSourcePositions();
        long first = unit.getLineMap().getLineNumber(positions.getStartPosition(unit, tree));
        return unit.getLineMap().getLineNumber(positions.getEndPosition(unit, tree)) - first + 1;
    }

    /** The method or constructor round the present place; null outside of all. */
    private Element method() {
        for (TreePath path = getCurrentPath(); path != null; path = path.getParentPath()) {
            if (path.getLeaf() instanceof MethodTree) {
                return trees.getElement(path);
            }
        }
        return null;
    }

    private boolean isInConstructor() {
        Element method = method();
        return method != null && method.getKind() == ElementKind.CONSTRUCTOR;
    }

    private void none(String rule, Tree tree) {
        check.equal(line(tree) + rule, "not there", tree.toString());
    }

    @Override
    public Void visitImport(ImportTree tree, Void nothing) {
        String name = tree.getQualifiedIdentifier().toString();
        boolean isListed = Set.of("java.util.Arrays", "java.util.NoSuchElementException").contains(name);
        check.equal("rule 4: import " + name, true, isListed);
        return super.visitImport(tree, nothing);
    }

    @Override
    public Void visitClass(ClassTree tree, Void nothing) {
        classes++;
        Element element = element();
        boolean isFace = element.getSimpleName().contentEquals("TrainTimetable");
        check.equal(line(tree) + "rule 1: static", !isFace, element.getModifiers().contains(Modifier.STATIC));
        int fields = 0;
        for (Element member : element.getEnclosedElements()) {
            check.equal(member + " is no block", false, member.getKind() == ElementKind.STATIC_INIT);
            fields += member.getKind() == ElementKind.FIELD && !member.getModifiers().contains(Modifier.STATIC) ? 1 : 0;
        }
        check.equal(line(tree) + "rule 11: at most twenty fields", true, fields <= 20);
        return super.visitClass(tree, nothing);
    }

    @Override
    public Void visitMethod(MethodTree tree, Void nothing) {
        check.equal(line(tree) + "rule 11: at most seven parameters", true, tree.getParameters().size() <= 7);
        check.equal(line(tree) + "rule 11: at most sixty lines", true, lines(tree) <= 60);
        Element method = element();
        boolean isFace = method.getEnclosingElement().toString().equals("TrainTimetable");
        if (isFace && method.getKind() == ElementKind.METHOD && method.getModifiers().contains(Modifier.PUBLIC)) {
            faceMethods.add(name(method));
        }
        return super.visitMethod(tree, nothing);
    }

    @Override
    public Void visitVariable(VariableTree tree, Void nothing) {
        Element variable = element();
        TypeMirror type = variable.asType();
        boolean isOwn = type.toString().startsWith("TrainTimetable.") && type.getKind() == TypeKind.DECLARED;
        check.equal(line(tree) + "rule 3: " + type, true, isOwn || TYPES.contains(type.toString()));
        Set<Modifier> modifiers = variable.getModifiers();
        if (modifiers.contains(Modifier.STATIC)) {
            check.equal(line(tree) + "rule 5: final", true, modifiers.contains(Modifier.FINAL));
            check.equal(line(tree) + "rule 5: a number", "int", type.toString());
            check.equal(line(tree) + "rule 5: written out", true, tree.getInitializer() != null);
        }
        return super.visitVariable(tree, nothing);
    }

    @Override
    public Void visitMethodInvocation(MethodInvocationTree tree, Void nothing) {
        Element callee = element();
        Element caller = method();
        check.equal(line(tree) + "a call stands in a method", true, caller != null);
        boolean isSuper = tree.getMethodSelect().toString().equals("super");
        if (isOwn(callee) && caller != null) {
            callees.computeIfAbsent(name(caller), key -> new TreeSet<>()).add(name(callee));
        } else if (!isSuper) {
            check.equal(line(tree) + "rule 4: " + name(callee), true, LIBRARY.contains(name(callee)));
        }
        return super.visitMethodInvocation(tree, nothing);
    }

    @Override
    public Void visitNewClass(NewClassTree tree, Void nothing) {
        boolean isThrown = getCurrentPath().getParentPath().getLeaf() instanceof ThrowTree;
        check.equal(line(tree) + "rule 12: made in a constructor", true, isThrown || isInConstructor());
        check.equal(line(tree) + "rule 2: no anonymous class", null, tree.getClassBody());
        return super.visitNewClass(tree, nothing);
    }

    @Override
    public Void visitNewArray(NewArrayTree tree, Void nothing) {
        check.equal(line(tree) + "rule 12: made in a constructor", true, isInConstructor());
        check.equal(line(tree) + "rule 3: one dimension", 1, tree.getDimensions().size());
        return super.visitNewArray(tree, nothing);
    }

    @Override
    public Void visitThrow(ThrowTree tree, Void nothing) {
        check.equal(line(tree) + "rule 6: not in a constructor", false, isInConstructor());
        ExpressionTree thrown = tree.getExpression();
        check.equal(line(tree) + "rule 6: a new exception", true, thrown instanceof NewClassTree);
        if (thrown instanceof NewClassTree made) {
            String name = made.getIdentifier().toString();
            check.equal(line(tree) + "rule 6: " + name, true, EXCEPTIONS.contains(name));
            boolean isWritten = made.getArguments().stream().allMatch(text -> text instanceof LiteralTree);
            check.equal(line(tree) + "rule 6: a written text", true, isWritten);
        }
        return super.visitThrow(tree, nothing);
    }

    @Override
    public Void visitBinary(BinaryTree tree, Void nothing) {
        String type = trees.getTypeMirror(getCurrentPath()).toString();
        check.equal(line(tree) + "rule 10: numbers alone", true, Set.of("int", "boolean", "double").contains(type));
        if (tree.getKind() == Tree.Kind.DIVIDE || tree.getKind() == Tree.Kind.REMAINDER) {
            // a divisor that is no written number is tested before, which is for the reader to see
            boolean isWritten = tree.getRightOperand() instanceof LiteralTree;
            check.equal(line(tree) + "rule 7: a divisor", true, isWritten || type.equals("double"));
        }
        return super.visitBinary(tree, nothing);
    }

    @Override
    public Void visitTypeCast(TypeCastTree tree, Void nothing) {
        String type = tree.getType().toString();
        check.equal(line(tree) + "rule 6: a cast to " + type, true, Set.of("byte", "double").contains(type));
        return super.visitTypeCast(tree, nothing);
    }

    @Override
    public Void visitUnary(UnaryTree tree, Void nothing) {
        String type = trees.getTypeMirror(getCurrentPath()).toString();
        check.equal(line(tree) + "rule 3: a number", true, Set.of("int", "boolean").contains(type));
        return super.visitUnary(tree, nothing);
    }

    @Override
    public Void visitTry(TryTree tree, Void nothing) {
        none("no try", tree);
        return null;
    }

    @Override
    public Void visitLambdaExpression(LambdaExpressionTree tree, Void nothing) {
        none("rule 2: no lambda", tree);
        return null;
    }

    @Override
    public Void visitMemberReference(MemberReferenceTree tree, Void nothing) {
        none("rule 2: no method reference", tree);
        return null;
    }

    @Override
    public Void visitSynchronized(SynchronizedTree tree, Void nothing) {
        none("rule 6: no synchronized", tree);
        return null;
    }

    @Override
    public Void visitAssert(AssertTree tree, Void nothing) {
        none("rule 6: no assert", tree);
        return null;
    }

    @Override
    public Void visitInstanceOf(InstanceOfTree tree, Void nothing) {
        none("no instanceof", tree);
        return null;
    }
}
