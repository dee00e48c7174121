import com.sun.source.tree.AssertTree;
import com.sun.source.tree.BinaryTree;
import com.sun.source.tree.ClassTree;
import com.sun.source.tree.CompilationUnitTree;
import com.sun.source.tree.CompoundAssignmentTree;
import com.sun.source.tree.ExpressionTree;
import com.sun.source.tree.ForLoopTree;
import com.sun.source.tree.LambdaExpressionTree;
import com.sun.source.tree.LineMap;
import com.sun.source.tree.LiteralTree;
import com.sun.source.tree.MemberReferenceTree;
import com.sun.source.tree.MethodInvocationTree;
import com.sun.source.tree.MethodTree;
import com.sun.source.tree.NewArrayTree;
import com.sun.source.tree.NewClassTree;
import com.sun.source.tree.SynchronizedTree;
import com.sun.source.tree.ThrowTree;
import com.sun.source.tree.Tree;
import com.sun.source.tree.TryTree;
import com.sun.source.tree.VariableTree;
import com.sun.source.tree.WhileLoopTree;
import com.sun.source.util.JavacTask;
import com.sun.source.util.TreePathScanner;
import com.sun.source.util.Trees;
import java.nio.charset.StandardCharsets;
import java.nio.file.Files;
import java.nio.file.Path;
import java.util.List;
import java.util.Map;
import java.util.Set;
import java.util.TreeMap;
import java.util.TreeSet;
import javax.lang.model.element.Element;
import javax.lang.model.element.ElementKind;
import javax.lang.model.element.Modifier;
import javax.lang.model.type.TypeKind;
import javax.lang.model.type.TypeMirror;
import javax.tools.JavaCompiler;
import javax.tools.StandardJavaFileManager;
import javax.tools.ToolProvider;

/**
 * Rules of ../shared/LANGUAGE.md that can be seen in the source's tree; each complaint begins with its rule's number.
 * Where the class keeps to less than a rule leaves (no recursion, no doubles, no object made by a call), that is held too.
 */
public final class LanguageTest extends TreePathScanner<Void, Void> {
    private static final Set<String> LIBRARY = Set.of("java.lang.System.arraycopy", "java.util.Arrays.fill",
        "java.util.Arrays.copyOf", "java.util.Arrays.copyOfRange", "java.lang.Integer.bitCount", "java.lang.Integer.compare",
        "java.lang.Math.min", "java.lang.Math.max", "java.lang.Math.abs", "java.lang.Object.Object");
    private static final Set<String> CONSTANTS = Set.of("int", "long", "boolean", "char", "java.lang.String");
    private static final Set<String> CONSTANT_ROWS = Set.of("int[]", "long[]", "char[]", "byte[]");
    private static final int CLASSES = 12, FIELDS = 20, PARAMETERS = 7, LINES = 60, DEPTH = 8;

    private final Check check;
    private final Trees trees;
    private final CompilationUnitTree unit;
    private final LineMap lines;
    private final Map<String, Set<String>> calls = new TreeMap<>();
    private String method = "";
    private boolean making;
    private int classes;

    private LanguageTest(Check check, Trees trees, CompilationUnitTree unit) {
        this.check = check;
        this.trees = trees;
        this.unit = unit;
        this.lines = unit.getLineMap();
    }

    public static void main(String[] args) throws Exception {
        Check check = new Check();
        // Throws if a sign is above 127 (rule 4).
        Files.readString(Path.of(args[0]), StandardCharsets.US_ASCII);
        JavaCompiler compiler = ToolProvider.getSystemJavaCompiler();
        StandardJavaFileManager files = compiler.getStandardFileManager(null, null, StandardCharsets.US_ASCII);
        JavacTask task = (JavacTask) compiler.getTask(null, files, null, List.of("-proc:none"), null,
            files.getJavaFileObjects(args[0]));
        CompilationUnitTree unit = task.parse().iterator().next();
        task.analyze();
        LanguageTest test = new LanguageTest(check, Trees.instance(task), unit);
        test.scan(unit, null);
        test.ends();
        check.end();
    }

    private void complain(String rule, Tree where) {
        long line = lines.getLineNumber(trees.getSourcePositions().getStartPosition(unit, where));
        check.holds("rule " + rule + ", line " + line + ": " + where, false);
    }

    private void holds(String rule, Tree where, boolean so) {
        if (!so) {
            complain(rule, where);
        }
    }

    private boolean isOwn(Element element) {
        Element top = element;
        while (top.getEnclosingElement() != null && top.getEnclosingElement().getKind() != ElementKind.PACKAGE) {
            top = top.getEnclosingElement();
        }
        return top.getSimpleName().contentEquals("CastGallery");
    }

    // ---- the file, its classes and their members

    @Override
    public Void visitCompilationUnit(CompilationUnitTree tree, Void none) {
        check.holds("rule 1: no package", tree.getPackage() == null);
        check.due("rule 1: classes outside", tree.getTypeDecls().size(), 1);
        tree.getImports().forEach(line -> holds("4", line, !line.isStatic()
            && line.getQualifiedIdentifier().toString().matches("java\\.util\\.(Arrays|ArrayList|List|Iterator)")));
        return super.visitCompilationUnit(tree, none);
    }

    @Override
    public Void visitClass(ClassTree tree, Void none) {
        classes++;
        boolean inside = getCurrentPath().getParentPath().getLeaf() instanceof ClassTree;
        Set<Modifier> modifiers = tree.getModifiers().getFlags();
        if (classes > 1) {
            holds("2", tree, inside && modifiers.contains(Modifier.STATIC));
            holds("1", tree, !modifiers.contains(Modifier.PUBLIC) && !modifiers.contains(Modifier.PROTECTED));
        }
        int fields = 0;
        for (Tree member : tree.getMembers()) {
            holds("5", member, member.getKind() != Tree.Kind.BLOCK);
            if (member instanceof VariableTree field && !field.getModifiers().getFlags().contains(Modifier.STATIC)) {
                fields++;
            }
        }
        check.holds("rule 11: fields of " + tree.getSimpleName() + ": " + fields, fields <= FIELDS);
        return super.visitClass(tree, none);
    }

    @Override
    public Void visitMethod(MethodTree tree, Void none) {
        Element element = trees.getElement(getCurrentPath());
        method = nameOf(element);
        making = element.getKind() == ElementKind.CONSTRUCTOR;
        holds("11", tree, tree.getParameters().size() <= PARAMETERS);
        long from = lines.getLineNumber(trees.getSourcePositions().getStartPosition(unit, tree));
        long to = trees.getSourcePositions().getEndPosition(unit, tree);
        // A constructor that is not written out has no end.
        holds("11", tree, to < 0 || lines.getLineNumber(to) - from < LINES);
        super.visitMethod(tree, none);
        method = "";
        making = false;
        return null;
    }

    @Override
    public Void visitVariable(VariableTree tree, Void none) {
        Element element = trees.getElement(getCurrentPath());
        String type = element.asType().toString();
        holds("3", tree, type.matches("(int|long|boolean|char|byte|short)(\\[\\]){0,2}|java\\.lang\\.String")
            || type.matches("CastGallery\\.\\w+(\\[\\])?"));
        if (element.getModifiers().contains(Modifier.STATIC)) {
            boolean row = CONSTANT_ROWS.contains(type) && tree.getInitializer() instanceof NewArrayTree;
            holds("5", tree, element.getModifiers().contains(Modifier.FINAL) && (CONSTANTS.contains(type) || row));
        }
        return super.visitVariable(tree, none);
    }

    // ---- what is ruled out

    @Override
    public Void visitThrow(ThrowTree tree, Void none) {
        complain("6", tree);
        return null;
    }

    @Override
    public Void visitTry(TryTree tree, Void none) {
        complain("6", tree);
        return null;
    }

    @Override
    public Void visitSynchronized(SynchronizedTree tree, Void none) {
        complain("6", tree);
        return null;
    }

    @Override
    public Void visitAssert(AssertTree tree, Void none) {
        complain("6", tree);
        return null;
    }

    @Override
    public Void visitLambdaExpression(LambdaExpressionTree tree, Void none) {
        complain("2", tree);
        return null;
    }

    @Override
    public Void visitMemberReference(MemberReferenceTree tree, Void none) {
        complain("2", tree);
        return null;
    }

    @Override
    public Void visitLiteral(LiteralTree tree, Void none) {
        holds("3", tree, tree.getKind() != Tree.Kind.DOUBLE_LITERAL && tree.getKind() != Tree.Kind.FLOAT_LITERAL);
        return super.visitLiteral(tree, none);
    }

    @Override
    public Void visitBinary(BinaryTree tree, Void none) {
        TypeMirror type = trees.getTypeMirror(getCurrentPath());
        holds("10", tree, type.getKind().isPrimitive());
        return super.visitBinary(tree, none);
    }

    @Override
    public Void visitCompoundAssignment(CompoundAssignmentTree tree, Void none) {
        holds("10", tree, trees.getTypeMirror(getCurrentPath()).getKind().isPrimitive());
        return super.visitCompoundAssignment(tree, none);
    }

    @Override
    public Void visitWhileLoop(WhileLoopTree tree, Void none) {
        holds("9", tree, isAsked(tree.getCondition()));
        return super.visitWhileLoop(tree, none);
    }

    @Override
    public Void visitForLoop(ForLoopTree tree, Void none) {
        holds("9", tree, tree.getCondition() != null && isAsked(tree.getCondition()) && !tree.getUpdate().isEmpty());
        return super.visitForLoop(tree, none);
    }

    private static boolean isAsked(ExpressionTree condition) {
        return !condition.toString().matches("\\(*true\\)*");
    }

    // ---- what is made and called

    @Override
    public Void visitNewClass(NewClassTree tree, Void none) {
        holds("2", tree, tree.getClassBody() == null);
        holds("12, and no call makes an object", tree, making || method.isEmpty());
        called(trees.getElement(getCurrentPath()), tree);
        return super.visitNewClass(tree, none);
    }

    @Override
    public Void visitNewArray(NewArrayTree tree, Void none) {
        holds("12, and no call makes an object", tree, making || method.isEmpty());
        TypeMirror type = trees.getTypeMirror(getCurrentPath());
        holds("3", tree, type.getKind() == TypeKind.ARRAY);
        return super.visitNewArray(tree, none);
    }

    @Override
    public Void visitMethodInvocation(MethodInvocationTree tree, Void none) {
        called(trees.getElement(getCurrentPath()), tree);
        return super.visitMethodInvocation(tree, none);
    }

    private void called(Element element, Tree tree) {
        if (isOwn(element)) {
            calls.computeIfAbsent(method, caller -> new TreeSet<>()).add(nameOf(element));
        } else {
            String name = element.getKind() == ElementKind.CONSTRUCTOR ? "Object" : element.getSimpleName().toString();
            holds("4", tree, LIBRARY.contains(element.getEnclosingElement() + "." + name));
        }
    }

    private static String nameOf(Element element) {
        return element.getEnclosingElement().getSimpleName() + "." + element;
    }

    private void ends() {
        check.holds("rule 11: classes: " + classes, classes <= CLASSES);
        for (String caller : calls.keySet()) {
            int deep = depth(caller, DEPTH + 1);
            check.holds("rules 8 and 11: " + caller + " goes eight deep at most, without recursion", deep <= DEPTH);
        }
    }

    /** How many stand open at once, from a method on; no more than a limit, at which recursion ends too. */
    private int depth(String caller, int limit) {
        int deepest = 0;
        for (String callee : limit == 0 ? Set.<String>of() : calls.getOrDefault(caller, Set.of())) {
            deepest = Math.max(deepest, depth(callee, limit - 1));
        }
        return 1 + deepest;
    }
}
