import com.sun.source.tree.AnnotationTree;
import com.sun.source.tree.AssertTree;
import com.sun.source.tree.BinaryTree;
import com.sun.source.tree.BlockTree;
import com.sun.source.tree.ClassTree;
import com.sun.source.tree.CompilationUnitTree;
import com.sun.source.tree.CompoundAssignmentTree;
import com.sun.source.tree.DoWhileLoopTree;
import com.sun.source.tree.ExpressionTree;
import com.sun.source.tree.ForLoopTree;
import com.sun.source.tree.IdentifierTree;
import com.sun.source.tree.ImportTree;
import com.sun.source.tree.InstanceOfTree;
import com.sun.source.tree.LambdaExpressionTree;
import com.sun.source.tree.LineMap;
import com.sun.source.tree.MemberReferenceTree;
import com.sun.source.tree.MemberSelectTree;
import com.sun.source.tree.MethodInvocationTree;
import com.sun.source.tree.MethodTree;
import com.sun.source.tree.NewArrayTree;
import com.sun.source.tree.NewClassTree;
import com.sun.source.tree.SynchronizedTree;
import com.sun.source.tree.ThrowTree;
import com.sun.source.tree.Tree;
import com.sun.source.tree.TryTree;
import com.sun.source.tree.TypeCastTree;
import com.sun.source.tree.VariableTree;
import com.sun.source.tree.WhileLoopTree;
import com.sun.source.util.JavacTask;
import com.sun.source.util.TreePath;
import com.sun.source.util.TreePathScanner;
import com.sun.source.util.Trees;
import java.io.IOException;
import java.nio.charset.StandardCharsets;
import java.nio.file.Files;
import java.nio.file.Path;
import java.util.HashMap;
import java.util.HashSet;
import java.util.List;
import java.util.Map;
import java.util.Set;
import java.util.TreeMap;
import java.util.TreeSet;
import java.util.regex.Pattern;
import javax.lang.model.element.Element;
import javax.lang.model.element.ElementKind;
import javax.lang.model.element.ExecutableElement;
import javax.lang.model.element.Modifier;
import javax.lang.model.element.TypeElement;
import javax.lang.model.type.TypeMirror;
import javax.tools.JavaCompiler;
import javax.tools.JavaFileObject;
import javax.tools.StandardJavaFileManager;
import javax.tools.ToolProvider;

/**
 * The rules of LANGUAGE.md that the source itself shows, read by the compiler's own reader. It asks for the part of the
 * rules that the class uses: what the rules also allow (lists, own exceptions caught, records) fails here till it is added.
 */
public final class LanguageTest extends TreePathScanner<Void, Void> {
    private static final String SOURCE = "src/main/java/CottageYear.java";
    private static final Set<String> IMPORTS = Set.of("java.util.Arrays", "java.util.NoSuchElementException");
    /** What the class may use of the library (rule 4). */
    private static final Set<String> LIBRARY = Set.of("java.lang.Math.min", "java.lang.Math.max", "java.lang.Math.abs",
        "java.lang.String.indexOf", "java.lang.System.arraycopy", "java.util.Arrays.fill",
        "java.util.NoSuchElementException.<init>", "java.lang.Object.<init>");
    private static final Set<String> SIMPLE = Set.of("int", "long", "boolean", "char", "java.lang.String");
    private static final Pattern ARRAY = Pattern.compile("(int|long|boolean|CottageYear\\.\\w+)\\[\\]");
    /** Calls that stand in a circle (rule 8): each carries its depth, or how far it has come, as an argument. */
    private static final Set<Set<String>> CIRCLES = Set.of(Set.of("Moves.place"), Set.of("Planner.lengthen"),
        Set.of("Text.sumFor", "Text.productFor", "Text.atomFor"));
    /** Where something is made (rule 12), beside the fields that a constructor fills. */
    private static final Set<String> MAKERS = Set.of("CottageYear.cottage", "CottageYear.book", "CottageYear.team",
        "CottageYear.makeJobs", "Wages.keepTape", "CottageYear.about");

    private static int wrong;
    private final Trees trees;
    private final CompilationUnitTree unit;
    private final Map<String, Set<String>> calls = new TreeMap<>();
    private final Set<String> face = new HashSet<>();

    private LanguageTest(Trees trees, CompilationUnitTree unit) {
        this.trees = trees;
        this.unit = unit;
    }

    public static void main(String[] args) throws IOException {
        for (byte one : Files.readAllBytes(Path.of(SOURCE))) {
            due("signs 1 to 127 alone", one > 0);
        }
        JavaCompiler compiler = ToolProvider.getSystemJavaCompiler();
        try (StandardJavaFileManager files = compiler.getStandardFileManager(null, null, StandardCharsets.UTF_8)) {
            Iterable<? extends JavaFileObject> sources = files.getJavaFileObjects(SOURCE);
            JavacTask task = (JavacTask) compiler.getTask(null, files, null, List.of("-proc:none"), null, sources);
            CompilationUnitTree unit = task.parse().iterator().next();
            task.analyze();
            LanguageTest test = new LanguageTest(Trees.instance(task), unit);
            due("no package", unit.getPackageName() == null);
            due("one class", unit.getTypeDecls().size() == 1);
            test.scan(unit, null);
            test.dueOfCalls();
        }
        System.out.println(wrong == 0 ? "language: as the rules ask" : "language: " + wrong + " WRONG");
        if (wrong != 0) {
            System.exit(1);
        }
    }

    private static void due(String what, boolean holds) {
        if (!holds) {
            wrong++;
            System.out.println("not so: " + what);
        }
    }

    private void due(String what, Tree tree, boolean holds) {
        due("line " + lineAt(trees.getSourcePositions().getStartPosition(unit, tree)) + ": " + what, holds);
    }

    private long lineAt(long position) {
        LineMap lines = unit.getLineMap();
        return position < 0 ? 0 : lines.getLineNumber(position);
    }

    // ---- rules 2, 6, 9, 10: what does not stand there at all

    @Override
    public Void visitLambdaExpression(LambdaExpressionTree tree, Void none) {
        due("rule 2: no lambda", tree, false);
        return super.visitLambdaExpression(tree, none);
    }

    @Override
    public Void visitMemberReference(MemberReferenceTree tree, Void none) {
        due("rule 2: no method reference", tree, false);
        return super.visitMemberReference(tree, none);
    }

    @Override
    public Void visitTry(TryTree tree, Void none) {
        due("rule 6: no try", tree, false);
        return super.visitTry(tree, none);
    }

    @Override
    public Void visitSynchronized(SynchronizedTree tree, Void none) {
        due("rule 6: no synchronized", tree, false);
        return super.visitSynchronized(tree, none);
    }

    @Override
    public Void visitAssert(AssertTree tree, Void none) {
        due("rule 6: no assert", tree, false);
        return super.visitAssert(tree, none);
    }

    @Override
    public Void visitInstanceOf(InstanceOfTree tree, Void none) {
        due("rule 6: no instanceof", tree, false);
        return super.visitInstanceOf(tree, none);
    }

    @Override
    public Void visitAnnotation(AnnotationTree tree, Void none) {
        due("no annotation", tree, false);
        return super.visitAnnotation(tree, none);
    }

    @Override
    public Void visitWhileLoop(WhileLoopTree tree, Void none) {
        due("rule 9: no while", tree, false);
        return super.visitWhileLoop(tree, none);
    }

    @Override
    public Void visitDoWhileLoop(DoWhileLoopTree tree, Void none) {
        due("rule 9: no do", tree, false);
        return super.visitDoWhileLoop(tree, none);
    }

    @Override
    public Void visitForLoop(ForLoopTree tree, Void none) {
        boolean counts = tree.getInitializer().size() == 1 && tree.getUpdate().size() == 1 && tree.getCondition() != null;
        due("rule 9: a counter against a bound", tree, counts);
        if (counts) {
            String counter = ((VariableTree) tree.getInitializer().get(0)).getName().toString();
            String bound = tree.getCondition().toString();
            due("rule 9: the counter is looked at", tree, bound.matches("(?s).*\\b" + counter + " (<|<=|>=) .*"));
            due("rule 9: the counter moves", tree, tree.getUpdate().get(0).toString().matches(counter + " ?(\\+\\+|--|-= 8);?"));
        }
        return super.visitForLoop(tree, none);
    }

    // ---- rules 1, 5, 11: classes, methods and fields

    @Override
    public Void visitImport(ImportTree tree, Void none) {
        due("rule 4: import " + tree.getQualifiedIdentifier(), tree, IMPORTS.contains(tree.getQualifiedIdentifier().toString()));
        return null;
    }

    @Override
    public Void visitBlock(BlockTree tree, Void none) {
        boolean initialiser = getCurrentPath().getParentPath().getLeaf() instanceof ClassTree;
        due("rule 5: no initialiser block", tree, !initialiser);
        return super.visitBlock(tree, none);
    }

    @Override
    public Void visitClass(ClassTree tree, Void none) {
        due("rule 2: no local class", tree, getCurrentPath().getParentPath().getLeaf() instanceof ClassTree
            || getCurrentPath().getParentPath().getLeaf() instanceof CompilationUnitTree);
        due("rule 2: nothing is extended", tree, tree.getExtendsClause() == null && tree.getImplementsClause().isEmpty());
        return super.visitClass(tree, none);
    }

    @Override
    public Void visitMethod(MethodTree tree, Void none) {
        long start = trees.getSourcePositions().getStartPosition(unit, tree);
        long end = trees.getSourcePositions().getEndPosition(unit, tree);
        due("rule 11: sixty lines at most: " + tree.getName(), tree, lineAt(end) - lineAt(start) < 60);
        due("rule 11: seven parameters at most: " + tree.getName(), tree, tree.getParameters().size() <= 7);
        String name = tree.getName().toString();
        due("rule 6: no " + name, tree, !Set.of("equals", "hashCode", "toString").contains(name));
        Element method = trees.getElement(getCurrentPath());
        if (method.getModifiers().contains(Modifier.PUBLIC) && method.getKind() == ElementKind.METHOD) {
            face.add(nameOf(method));
        }
        calls.putIfAbsent(nameOf(method), new TreeSet<>());
        return super.visitMethod(tree, none);
    }

    @Override
    public Void visitVariable(VariableTree tree, Void none) {
        Element of = trees.getElement(getCurrentPath());
        String type = of.asType().toString();
        due("rule 3: type " + type, tree, isOwn(of.asType()) || SIMPLE.contains(type) || ARRAY.matcher(type).matches());
        if (of.getKind() == ElementKind.FIELD && of.getModifiers().contains(Modifier.STATIC)) {
            due("rule 5: a static field is a final constant", tree, of.getModifiers().contains(Modifier.FINAL) && SIMPLE.contains(type));
        }
        return super.visitVariable(tree, none);
    }

    private static boolean isOwn(TypeMirror type) {
        return type.toString().matches("CottageYear(\\.\\w+)?");
    }

    // ---- rules 3, 4, 6, 10, 12: what is used and made

    @Override
    public Void visitTypeCast(TypeCastTree tree, Void none) {
        due("rule 6: casts of numbers alone", tree, Set.of("int", "char").contains(tree.getType().toString()));
        return super.visitTypeCast(tree, none);
    }

    @Override
    public Void visitBinary(BinaryTree tree, Void none) {
        due("rule 10: no texts joined by +", tree, tree.getKind() != Tree.Kind.PLUS || !isText(tree.getLeftOperand()) && !isText(tree.getRightOperand()));
        boolean divides = tree.getKind() == Tree.Kind.DIVIDE || tree.getKind() == Tree.Kind.REMAINDER;
        due("rule 7: a divisor that is looked at: " + tree, tree, !divides
            || Set.of("60", "CODES", "LABELS", "other", "sum").contains(tree.getRightOperand().toString()));
        return super.visitBinary(tree, none);
    }

    @Override
    public Void visitCompoundAssignment(CompoundAssignmentTree tree, Void none) {
        due("rule 7: no /= or %=", tree, tree.getKind() != Tree.Kind.DIVIDE_ASSIGNMENT && tree.getKind() != Tree.Kind.REMAINDER_ASSIGNMENT);
        due("rule 10: no texts joined by +=", tree, !isText(tree.getVariable()));
        return super.visitCompoundAssignment(tree, none);
    }

    private boolean isText(ExpressionTree tree) {
        TypeMirror type = trees.getTypeMirror(new TreePath(getCurrentPath(), tree));
        return type != null && type.toString().equals("java.lang.String");
    }

    @Override
    public Void visitThrow(ThrowTree tree, Void none) {
        due("rule 6: only about throws", tree, around().equals("CottageYear.about"));
        due("rule 6: a new one", tree, tree.getExpression().toString().equals("new NoSuchElementException()"));
        return super.visitThrow(tree, none);
    }

    @Override
    public Void visitNewClass(NewClassTree tree, Void none) {
        dueMade(tree);
        dueLibrary(tree, trees.getElement(getCurrentPath()));
        due("rule 2: no anonymous class", tree, tree.getClassBody() == null);
        return super.visitNewClass(tree, none);
    }

    @Override
    public Void visitNewArray(NewArrayTree tree, Void none) {
        dueMade(tree);
        due("rule 3: one dimension", tree, tree.getDimensions().size() <= 1);
        for (ExpressionTree length : tree.getDimensions()) {
            due("rule 7: a length written out: " + length, tree, length.toString().matches("[A-Z_0-9 *+]+"));
        }
        return super.visitNewArray(tree, none);
    }

    private void dueMade(Tree tree) {
        String maker = around();
        due("rule 12: made in " + maker, tree, maker.isEmpty() || MAKERS.contains(maker));
    }

    @Override
    public Void visitMethodInvocation(MethodInvocationTree tree, Void none) {
        Element called = trees.getElement(getCurrentPath());
        dueLibrary(tree, called);
        if (called instanceof ExecutableElement && !called.getSimpleName().contentEquals("<init>")) {
            calls.computeIfAbsent(around(), of -> new TreeSet<>()).add(nameOf(called));
        }
        return super.visitMethodInvocation(tree, none);
    }

    @Override
    public Void visitMemberSelect(MemberSelectTree tree, Void none) {
        dueLibrary(tree, trees.getElement(getCurrentPath()));
        return super.visitMemberSelect(tree, none);
    }

    @Override
    public Void visitIdentifier(IdentifierTree tree, Void none) {
        dueLibrary(tree, trees.getElement(getCurrentPath()));
        return super.visitIdentifier(tree, none);
    }

    /** Members of the library's classes; the length of an array has no class around it. */
    private void dueLibrary(Tree tree, Element used) {
        if (used == null || !(used.getEnclosingElement() instanceof TypeElement)) {
            return;
        }
        TypeElement in = (TypeElement) used.getEnclosingElement();
        String name = in.getQualifiedName() + "." + used.getSimpleName();
        boolean own = isOwn(in.asType()) || in.getQualifiedName().contentEquals("Array");
        due("rule 4: " + name, tree, own || LIBRARY.contains(name));
    }

    /** The method in which this stands; empty in the field of a class. */
    private String around() {
        for (TreePath path = getCurrentPath(); path != null; path = path.getParentPath()) {
            if (path.getLeaf() instanceof MethodTree) {
                return nameOf(trees.getElement(path));
            }
        }
        return "";
    }

    private static String nameOf(Element method) {
        return method.getEnclosingElement().getSimpleName() + "." + method.getSimpleName();
    }

    // ---- rules 8 and 11: how deep calls go

    private void dueOfCalls() {
        Set<Set<String>> circles = new HashSet<>();
        for (String one : calls.keySet()) {
            Set<String> circle = new TreeSet<>(behind(one));
            circle.removeIf(other -> !behind(other).contains(one));
            if (!circle.isEmpty()) {
                circles.add(circle);
            }
        }
        due("rule 8: calls in a circle: " + circles, circles.equals(CIRCLES));
        for (String call : face) {
            int deep = depthOf(call, new HashMap<>(), new HashSet<>());
            due("rule 11: " + call + " goes " + deep + " deep", deep <= 8);
        }
    }

    /** All that is called behind a call. */
    private Set<String> behind(String call) {
        Set<String> found = new TreeSet<>();
        Set<String> last = calls.getOrDefault(call, Set.of());
        for (int i = 0; i < 1000 && !last.isEmpty(); i++) {
            Set<String> next = new TreeSet<>();
            for (String one : last) {
                if (found.add(one)) {
                    next.addAll(calls.getOrDefault(one, Set.of()));
                }
            }
            last = next;
        }
        return found;
    }

    /** The longest chain of calls of the class's own, those in one circle counted once. */
    private int depthOf(String call, Map<String, Integer> known, Set<String> open) {
        if (!calls.containsKey(call) || !open.add(call)) {
            return 0;
        }
        Integer before = known.get(call);
        if (before != null) {
            open.remove(call);
            return before;
        }
        int deepest = 0;
        for (String other : calls.get(call)) {
            deepest = Math.max(deepest, depthOf(other, known, open));
        }
        open.remove(call);
        boolean again = CIRCLES.stream().anyMatch(circle -> circle.contains(call))
            && open.stream().anyMatch(other -> CIRCLES.stream().anyMatch(circle -> circle.contains(call) && circle.contains(other)));
        int deep = deepest + (again ? 0 : 1);
        if (CIRCLES.stream().noneMatch(circle -> circle.contains(call))) {
            known.put(call, deep);
        }
        return deep;
    }
}
