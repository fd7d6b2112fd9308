import com.sun.source.tree.ArrayAccessTree;
import com.sun.source.tree.AssertTree;
import com.sun.source.tree.AssignmentTree;
import com.sun.source.tree.BinaryTree;
import com.sun.source.tree.BlockTree;
import com.sun.source.tree.CatchTree;
import com.sun.source.tree.ClassTree;
import com.sun.source.tree.CompilationUnitTree;
import com.sun.source.tree.CompoundAssignmentTree;
import com.sun.source.tree.EnhancedForLoopTree;
import com.sun.source.tree.ExpressionTree;
import com.sun.source.tree.ImportTree;
import com.sun.source.tree.LambdaExpressionTree;
import com.sun.source.tree.LiteralTree;
import com.sun.source.tree.MemberReferenceTree;
import com.sun.source.tree.MethodInvocationTree;
import com.sun.source.tree.MethodTree;
import com.sun.source.tree.NewClassTree;
import com.sun.source.tree.SynchronizedTree;
import com.sun.source.tree.ThrowTree;
import com.sun.source.tree.Tree;
import com.sun.source.tree.TryTree;
import com.sun.source.tree.UnaryTree;
import com.sun.source.tree.VariableTree;
import com.sun.source.util.JavacTask;
import com.sun.source.util.SourcePositions;
import com.sun.source.util.TreePathScanner;
import com.sun.source.util.Trees;
import java.io.File;
import java.io.IOException;
import java.util.ArrayList;
import java.util.LinkedHashMap;
import java.util.LinkedHashSet;
import java.util.List;
import java.util.Map;
import java.util.Set;
import java.util.TreeSet;
import javax.lang.model.element.Element;
import javax.lang.model.element.ElementKind;
import javax.lang.model.element.ExecutableElement;
import javax.lang.model.element.Modifier;
import javax.lang.model.type.TypeMirror;
import javax.tools.JavaCompiler;
import javax.tools.StandardJavaFileManager;
import javax.tools.ToolProvider;

/**
 * The rules of LANGUAGE.md that can be read off the source of the class: each line that breaks one is told with the
 * rule's number. What a reader must see is left: that all is tested ahead of its use, and that loops end (7 and 9).
 */
public final class LanguageTest extends TreePathScanner<Void, Void> {
    private static final String SOURCE = "src/main/java/ToolPlex.java";
    private static final int LONGEST = 60, DEEPEST = 8, MOST_CLASSES = 12, MOST_FIELDS = 20, MOST_PARAMETERS = 7;

    private static final Set<String> IMPORTS = Set.of("java.util.ArrayList", "java.util.Arrays", "java.util.List");
    private static final Set<String> CALLS = Set.of("String.length", "String.charAt", "String.isEmpty", "String.equals",
            "String.indexOf", "String.substring", "String.toCharArray", "StringBuilder.append", "StringBuilder.charAt",
            "StringBuilder.setCharAt", "StringBuilder.setLength", "StringBuilder.deleteCharAt", "StringBuilder.reverse",
            "StringBuilder.length", "StringBuilder.toString", "ArrayList.add", "ArrayList.get", "ArrayList.set",
            "ArrayList.remove", "ArrayList.size", "ArrayList.isEmpty", "ArrayList.clear",
            "System.arraycopy", "Arrays.copyOf", "Arrays.copyOfRange", "Arrays.fill");
    private static final Set<String> NUMBERS = Set.of("Integer", "Long", "Math");
    private static final Set<String> THROWN = Set.of("IllegalStateException", "IllegalArgumentException",
            "IndexOutOfBoundsException", "ArithmeticException", "UnsupportedOperationException",
            "NoSuchElementException", "RuntimeException");
    private static final Set<String> PLAIN =
            Set.of("int", "long", "short", "byte", "char", "boolean", "double", "float", "String", "StringBuilder");
    private static final Set<String> CONSTANTS =
            Set.of("int", "long", "boolean", "char", "String", "int[]", "long[]", "char[]", "byte[]");

    private final Trees trees;
    private final SourcePositions positions;
    private final CompilationUnitTree unit;
    private final Set<String> faces = new TreeSet<>();
    private final Set<String> classes = new TreeSet<>();
    private final Map<Element, Set<Element>> calls = new LinkedHashMap<>();
    private final List<Element> within = new ArrayList<>();
    private final Set<Element> throwing = new LinkedHashSet<>();
    private final Set<Element> catching = new LinkedHashSet<>();
    private int wrong;

    private LanguageTest(Trees itsTrees, CompilationUnitTree itsUnit) {
        trees = itsTrees;
        positions = itsTrees.getSourcePositions();
        unit = itsUnit;
    }

    public static void main(String[] args) throws IOException {
        JavaCompiler compiler = ToolProvider.getSystemJavaCompiler();
        try (StandardJavaFileManager manager = compiler.getStandardFileManager(null, null, null)) {
            JavacTask task = (JavacTask) compiler.getTask(null, manager, null, List.of("-proc:none"), null,
                    manager.getJavaFileObjects(new File(args.length > 0 ? args[0] : SOURCE)));
            CompilationUnitTree unit = task.parse().iterator().next();
            task.analyze();
            LanguageTest test = new LanguageTest(Trees.instance(task), unit);
            test.gather();
            test.scan(unit, null);
            test.checkCatches();
            test.checkDepth();
            System.out.println("LanguageTest: " + test.classes.size() + " classes, " + test.calls.size() + " methods, "
                    + test.wrong + " wrong");
            System.exit(test.wrong == 0 && !test.calls.isEmpty() ? 0 : 1);
        }
    }

    private void rule(int number, Tree at, String what) {
        wrong++;
        long line = unit.getLineMap().getLineNumber(positions.getStartPosition(unit, at));
        System.out.println("LanguageTest: rule " + number + ", line " + line + ": " + what);
    }

    /** The names of the classes, and of the public methods. */
    private void gather() {
        new TreePathScanner<Void, Void>() {
            @Override
            public Void visitClass(ClassTree tree, Void nothing) {
                classes.add(tree.getSimpleName().toString());
                return super.visitClass(tree, nothing);
            }

            @Override
            public Void visitMethod(MethodTree tree, Void nothing) {
                if (tree.getModifiers().getFlags().contains(Modifier.PUBLIC) && tree.getReturnType() != null) {
                    faces.add(tree.getName().toString());
                }
                return super.visitMethod(tree, nothing);
            }
        }.scan(unit, null);
        if (classes.size() > MOST_CLASSES) {
            rule(11, unit, classes.size() + " classes");
        }
    }

    private Element element() {
        return trees.getElement(getCurrentPath());
    }

    private Element element(Tree tree) {
        return trees.getElement(trees.getPath(unit, tree));
    }

    private String typeOf(Tree tree) {
        TypeMirror type = trees.getTypeMirror(trees.getPath(unit, tree));
        return type == null ? "" : simple(type.toString());
    }

    private static String simple(String type) {
        return type.replaceAll("[a-zA-Z.]*\\.", "");
    }

    private boolean isOwn(String type) {
        return classes.contains(type);
    }

    // ---- rules 1, 2, 5, 11: classes, fields, methods

    @Override
    public Void visitImport(ImportTree tree, Void nothing) {
        if (!IMPORTS.contains(tree.getQualifiedIdentifier().toString()) || tree.isStatic()) {
            rule(4, tree, "import " + tree.getQualifiedIdentifier());
        }
        return super.visitImport(tree, nothing);
    }

    @Override
    public Void visitClass(ClassTree tree, Void nothing) {
        Set<Modifier> flags = tree.getModifiers().getFlags();
        boolean outer = getCurrentPath().getParentPath().getLeaf() == unit;
        boolean inClass = getCurrentPath().getParentPath().getLeaf() instanceof ClassTree;
        if (outer && !(flags.contains(Modifier.PUBLIC) && flags.contains(Modifier.FINAL))) {
            rule(1, tree, "the class is not public and final");
        }
        if (inClass && (flags.contains(Modifier.PUBLIC) || flags.contains(Modifier.PROTECTED)
                || !flags.contains(Modifier.STATIC) && tree.getKind() == Tree.Kind.CLASS)) {
            rule(1, tree, "a class inside is not private or package-visible, and static");
        }
        int fields = 0;
        for (Tree member : tree.getMembers()) {
            if (member instanceof VariableTree field && !field.getModifiers().getFlags().contains(Modifier.STATIC)) {
                fields++;
            }
            if (member instanceof BlockTree block && block.isStatic()) {
                rule(5, block, "a static initialiser block");
            }
        }
        if (fields > MOST_FIELDS) {
            rule(11, tree, fields + " fields");
        }
        return super.visitClass(tree, nothing);
    }

    @Override
    public Void visitMethod(MethodTree tree, Void nothing) {
        String name = tree.getName().toString();
        Set<Modifier> flags = tree.getModifiers().getFlags();
        if (faces.contains(name) && !flags.contains(Modifier.PUBLIC)) {
            rule(1, tree, name + " bears the name of a public method");
        }
        if (Set.of("equals", "hashCode", "toString").contains(name)) {
            rule(6, tree, name);
        }
        if (flags.contains(Modifier.SYNCHRONIZED)) {
            rule(6, tree, "synchronized");
        }
        if (tree.getParameters().size() > MOST_PARAMETERS) {
            rule(11, tree, name + " takes " + tree.getParameters().size() + " parameters");
        }
        long lines = 1 + unit.getLineMap().getLineNumber(positions.getEndPosition(unit, tree))
                - unit.getLineMap().getLineNumber(positions.getStartPosition(unit, tree));
        if (lines > LONGEST) {
            rule(11, tree, name + " has " + lines + " lines");
        }
        Element method = element();
        calls.computeIfAbsent(method, m -> new LinkedHashSet<>());
        within.add(method);
        super.visitMethod(tree, nothing);
        within.remove(within.size() - 1);
        return null;
    }

    @Override
    public Void visitVariable(VariableTree tree, Void nothing) {
        Set<Modifier> flags = tree.getModifiers().getFlags();
        String type = simple(String.valueOf(element().asType()));
        if (flags.contains(Modifier.STATIC) && (!flags.contains(Modifier.FINAL) || !CONSTANTS.contains(type))) {
            rule(5, tree, "static " + type + " " + tree.getName());
        }
        if (!(getCurrentPath().getParentPath().getLeaf() instanceof CatchTree) && !isAllowed(type)) {
            rule(3, tree, type + " " + tree.getName());
        }
        return super.visitVariable(tree, nothing);
    }

    private boolean isAllowed(String type) {
        String row = type.endsWith("[]") ? type.substring(0, type.length() - 2) : type;
        if (row.endsWith("[]")) {
            return PLAIN.contains(row.substring(0, row.length() - 2)) && !row.startsWith("String");
        }
        if (!row.equals(type)) {
            return PLAIN.contains(row) && !row.startsWith("String") || isOwn(row);
        }
        if (type.startsWith("ArrayList<") || type.startsWith("List<")) {
            String of = type.substring(type.indexOf('<') + 1, type.length() - 1);
            return isOwn(of) || of.equals("Integer");
        }
        return PLAIN.contains(type) || isOwn(type);
    }

    // ---- rules 2, 4, 6, 10, 12: what stands in methods

    @Override
    public Void visitLambdaExpression(LambdaExpressionTree tree, Void nothing) {
        rule(2, tree, "a lambda");
        return super.visitLambdaExpression(tree, nothing);
    }

    @Override
    public Void visitMemberReference(MemberReferenceTree tree, Void nothing) {
        rule(2, tree, "a method reference");
        return super.visitMemberReference(tree, nothing);
    }

    @Override
    public Void visitMethodInvocation(MethodInvocationTree tree, Void nothing) {
        ExecutableElement called = (ExecutableElement) element(tree.getMethodSelect());
        String owner = called.getEnclosingElement().getSimpleName().toString();
        String name = owner + "." + called.getSimpleName();
        if (isOwn(owner)) {
            note(called);
        } else if (!CALLS.contains(name) && !isOfNumbers(called, owner) && !name.endsWith("Array.clone")
                && called.getKind() != ElementKind.CONSTRUCTOR) {
            rule(4, tree, name);
        }
        return super.visitMethodInvocation(tree, nothing);
    }

    /** The static functions of Integer, Long and Math over int and long, but for those whose name ends in Exact. */
    private static boolean isOfNumbers(ExecutableElement called, String owner) {
        return NUMBERS.contains(owner) && called.getModifiers().contains(Modifier.STATIC)
                && called.getParameters().stream().allMatch(p -> Set.of("int", "long").contains(p.asType().toString()))
                && !called.getSimpleName().toString().endsWith("Exact");
    }

    @Override
    public Void visitNewClass(NewClassTree tree, Void nothing) {
        String type = simple(element().getEnclosingElement().toString());
        if (isOwn(type)) {
            note(element());
        } else if (!Set.of("ArrayList", "StringBuilder", "String").contains(type)
                && !(getCurrentPath().getParentPath().getLeaf() instanceof ThrowTree)) {
            rule(4, tree, "new " + type);
        }
        return super.visitNewClass(tree, nothing);
    }

    private void note(Element called) {
        if (!within.isEmpty()) {
            calls.get(within.get(within.size() - 1)).add(called);
        }
    }

    @Override
    public Void visitThrow(ThrowTree tree, Void nothing) {
        boolean written = tree.getExpression() instanceof NewClassTree made && THROWN.contains(typeOf(made))
                && made.getArguments().size() <= 1
                && made.getArguments().stream().allMatch(text -> text instanceof LiteralTree);
        if (!written) {
            rule(6, tree, "thrown otherwise than by new E() or new E(\"a written text\")");
        }
        Element method = within.get(within.size() - 1);
        if (method.getKind() == ElementKind.CONSTRUCTOR) {
            rule(6, tree, "thrown in a constructor");
        }
        throwing.add(method);
        return super.visitThrow(tree, nothing);
    }

    @Override
    public Void visitTry(TryTree tree, Void nothing) {
        if (tree.getFinallyBlock() != null || !tree.getResources().isEmpty()) {
            rule(6, tree, "finally, or try with resources");
        }
        for (CatchTree caught : tree.getCatches()) {
            if (!THROWN.contains(typeOf(caught.getParameter().getType()))) {
                rule(6, caught, "catch of " + caught.getParameter().getType());
            }
        }
        catching.add(within.get(within.size() - 1));
        return super.visitTry(tree, nothing);
    }

    @Override
    public Void visitSynchronized(SynchronizedTree tree, Void nothing) {
        rule(6, tree, "synchronized");
        return super.visitSynchronized(tree, nothing);
    }

    @Override
    public Void visitAssert(AssertTree tree, Void nothing) {
        rule(6, tree, "assert");
        return super.visitAssert(tree, nothing);
    }

    @Override
    public Void visitLiteral(LiteralTree tree, Void nothing) {
        if (tree.getValue() instanceof String text && !text.chars().allMatch(sign -> sign >= 1 && sign <= 127)) {
            rule(4, tree, "a sign that is not 1 to 127");
        }
        if (tree.getValue() instanceof Character sign && sign > 255) {
            rule(3, tree, "a character that is not 0 to 255");
        }
        return super.visitLiteral(tree, nothing);
    }

    @Override
    public Void visitBinary(BinaryTree tree, Void nothing) {
        if (tree.getKind() == Tree.Kind.PLUS && typeOf(tree).equals("String")) {
            rule(10, tree, "texts joined by +");
        }
        boolean same = tree.getKind() == Tree.Kind.EQUAL_TO || tree.getKind() == Tree.Kind.NOT_EQUAL_TO;
        if (same && isBoxed(tree.getLeftOperand()) && isBoxed(tree.getRightOperand())) {
            rule(6, tree, "== between two texts, or two Integers");
        }
        return super.visitBinary(tree, nothing);
    }

    private boolean isBoxed(ExpressionTree tree) {
        return Set.of("String", "Integer").contains(typeOf(tree));
    }

    @Override
    public Void visitCompoundAssignment(CompoundAssignmentTree tree, Void nothing) {
        if (typeOf(tree.getVariable()).equals("String")) {
            rule(10, tree, "texts joined by +=");
        }
        checkConstant(tree, tree.getVariable());
        return super.visitCompoundAssignment(tree, nothing);
    }

    @Override
    public Void visitAssignment(AssignmentTree tree, Void nothing) {
        checkConstant(tree, tree.getVariable());
        return super.visitAssignment(tree, nothing);
    }

    @Override
    public Void visitUnary(UnaryTree tree, Void nothing) {
        if (tree.getKind().name().contains("CREMENT")) {
            checkConstant(tree, tree.getExpression());
        }
        return super.visitUnary(tree, nothing);
    }

    /** An array that is a constant is never changed. */
    private void checkConstant(Tree at, ExpressionTree changed) {
        if (changed instanceof ArrayAccessTree cell) {
            Element row = element(cell.getExpression());
            if (row != null && row.getModifiers().contains(Modifier.STATIC)) {
                rule(5, at, row + " is changed");
            }
        }
    }

    @Override
    public Void visitEnhancedForLoop(EnhancedForLoopTree tree, Void nothing) {
        if (!typeOf(tree.getExpression()).endsWith("[]")) {
            rule(12, tree, "a loop over a list that is not by index");
        }
        return super.visitEnhancedForLoop(tree, nothing);
    }

    private void checkCatches() {
        for (Element method : catching) {
            if (throwing.contains(method)) {
                rule(6, unit, method + " throws and catches");
            }
        }
    }

    // ---- rules 8 and 11: how deep calls go

    private void checkDepth() {
        int deepest = 0;
        for (Element method : calls.keySet()) {
            deepest = Math.max(deepest, depth(method, new ArrayList<>()));
        }
        if (deepest > DEEPEST) {
            rule(11, unit, "calls go " + deepest + " deep");
        }
        System.out.println("LanguageTest: calls go " + deepest + " deep");
    }

    private int depth(Element method, List<Element> open) {
        if (open.contains(method)) {
            rule(8, unit, "recursion: " + open + " " + method);
            return 0;
        }
        open.add(method);
        int deepest = 0;
        for (Element called : calls.getOrDefault(method, Set.of())) {
            deepest = Math.max(deepest, depth(called, open));
        }
        open.remove(open.size() - 1);
        return deepest + 1;
    }
}
