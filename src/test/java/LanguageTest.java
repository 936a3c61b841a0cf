import com.sun.source.tree.ArrayTypeTree;
import com.sun.source.tree.AssertTree;
import com.sun.source.tree.BinaryTree;
import com.sun.source.tree.ClassTree;
import com.sun.source.tree.CompilationUnitTree;
import com.sun.source.tree.DoWhileLoopTree;
import com.sun.source.tree.ForLoopTree;
import com.sun.source.tree.ImportTree;
import com.sun.source.tree.LambdaExpressionTree;
import com.sun.source.tree.MemberReferenceTree;
import com.sun.source.tree.MethodInvocationTree;
import com.sun.source.tree.MethodTree;
import com.sun.source.tree.NewArrayTree;
import com.sun.source.tree.NewClassTree;
import com.sun.source.tree.SynchronizedTree;
import com.sun.source.tree.ThrowTree;
import com.sun.source.tree.Tree;
import com.sun.source.tree.TryTree;
import com.sun.source.tree.VariableTree;
import com.sun.source.tree.WhileLoopTree;
import com.sun.source.util.JavacTask;
import com.sun.source.util.TreePath;
import com.sun.source.util.TreePathScanner;
import com.sun.source.util.Trees;
import java.io.IOException;
import java.nio.file.Path;
import java.util.HashSet;
import java.util.LinkedHashMap;
import java.util.List;
import java.util.Map;
import java.util.Set;
import javax.lang.model.element.Element;
import javax.lang.model.element.ElementKind;
import javax.lang.model.element.ExecutableElement;
import javax.lang.model.element.Modifier;
import javax.lang.model.element.VariableElement;
import javax.lang.model.type.TypeKind;
import javax.lang.model.util.ElementFilter;
import javax.tools.JavaCompiler;
import javax.tools.StandardJavaFileManager;
import javax.tools.ToolProvider;

/** The rules of LANGUAGE.md that can be read off the program's text, and that only constructors make objects. */
final class LanguageTest extends TreePathScanner<Void, Void> {
    private static final Path PROGRAM = Path.of("src/main/java/ViewMediator.java");
    /** Of the types of rule 3 those that the program has use for, beside its own classes. */
    private static final Set<String> TYPES = Set.of("int", "long", "boolean", "int[]", "long[]");
    /** The same of rule 4. */
    private static final Set<String> LIBRARY = Set.of("java.util.Arrays.fill");
    private static final int MOST_PARAMETERS = 7;
    private static final int MOST_LINES = 60;
    private static final int MOST_CALLS_DEEP = 8;
    private static final int MOST_CLASSES = 12;
    private static final int MOST_FIELDS = 20;
    private static final Checks checks = new Checks();

    private final Trees trees;
    private final CompilationUnitTree unit;
    private final Set<String> classes = new HashSet<>();
    private final Map<ExecutableElement, Set<ExecutableElement>> calls = new LinkedHashMap<>();

    private LanguageTest(Trees trees, CompilationUnitTree unit) {
        this.trees = trees;
        this.unit = unit;
    }

    public static void main(String[] args) throws IOException {
        JavaCompiler compiler = ToolProvider.getSystemJavaCompiler();
        try (StandardJavaFileManager files = compiler.getStandardFileManager(null, null, null)) {
            JavacTask task = (JavacTask) compiler.getTask(null, files, null, List.of("--release", "17"), null,
                    files.getJavaFileObjects(PROGRAM));
            CompilationUnitTree unit = task.parse().iterator().next();
            task.analyze();
            LanguageTest test = new LanguageTest(Trees.instance(task), unit);
            test.scan(unit, null);
            test.lookAtTheWhole();
        }
        checks.end();
    }

    private void lookAtTheWhole() {
        checks.due("the program's class is there", classes.contains("ViewMediator"), true);
        atMost(11, "classes of the file", classes.size(), MOST_CLASSES);
        Set<String> names = new HashSet<>();
        for (ExecutableElement method : ElementFilter.methodsIn(calls.keySet())) {
            if (isPublic(method)) {
                names.add(method.getSimpleName().toString());
            }
        }
        for (ExecutableElement method : ElementFilter.methodsIn(calls.keySet())) {
            checks.due("rule 1: " + method + " bears a public method's name",
                    !isPublic(method) && names.contains(method.getSimpleName().toString()), false);
        }
        checks.due("public methods", names.size(), 18);
        for (ExecutableElement method : calls.keySet()) {
            if (isPublic(method)) {
                atMost(11, "calls that go down from " + method, depth(method, new HashSet<>()), MOST_CALLS_DEEP);
            }
            if (reaches(method, method, new HashSet<>())) {
                lookAtRecursion(method);
            }
        }
    }

    private static boolean isPublic(ExecutableElement method) {
        return method.getModifiers().contains(Modifier.PUBLIC);
    }

    /** A method that may come back to itself is private and carries a number, its depth. */
    private static void lookAtRecursion(ExecutableElement method) {
        boolean carriesDepth = false;
        for (VariableElement parameter : method.getParameters()) {
            carriesDepth |= parameter.asType().getKind() == TypeKind.INT;
        }
        checks.due("rule 8: " + method + " is private", method.getModifiers().contains(Modifier.PRIVATE), true);
        checks.due("rule 8: " + method + " carries its depth", carriesDepth, true);
    }

    /** The most methods that stand open at once below a method, itself among them, each counted once. */
    private int depth(ExecutableElement method, Set<ExecutableElement> open) {
        int deepest = 0;
        open.add(method);
        for (ExecutableElement called : calls.getOrDefault(method, Set.of())) {
            if (!open.contains(called)) {
                deepest = Math.max(deepest, depth(called, open));
            }
        }
        open.remove(method);
        return deepest + 1;
    }

    private boolean reaches(ExecutableElement from, ExecutableElement to, Set<ExecutableElement> seen) {
        for (ExecutableElement called : calls.getOrDefault(from, Set.of())) {
            if (called.equals(to) || seen.add(called) && reaches(called, to, seen)) {
                return true;
            }
        }
        return false;
    }

    private static void atMost(int rule, String what, int count, int most) {
        checks.due("rule " + rule + ": " + what + ", " + count + ", at most " + most, count <= most, true);
    }

    private void refuse(int rule, Tree tree) {
        checks.due("rule " + rule + ", line " + lineOf(trees.getSourcePositions().getStartPosition(unit, tree)) + ": "
                + tree.getKind(), true, false);
    }

    private long lineOf(long position) {
        return unit.getLineMap().getLineNumber(position);
    }

    private boolean isOwn(Element element) {
        Element outermost = element;
        while (outermost.getEnclosingElement().getKind() != ElementKind.PACKAGE) {
            outermost = outermost.getEnclosingElement();
        }
        return outermost.getSimpleName().contentEquals("ViewMediator");
    }

    /** The method or constructor in which the tree that is looked at stands; of a field's initialiser a constructor. */
    private ExecutableElement methodAround() {
        TreePath path = getCurrentPath();
        while (!(path.getLeaf() instanceof MethodTree) && !(path.getLeaf() instanceof ClassTree)) {
            path = path.getParentPath();
        }
        Element around = trees.getElement(path);
        if (around instanceof ExecutableElement method) {
            return method;
        }
        List<ExecutableElement> constructors = ElementFilter.constructorsIn(around.getEnclosedElements());
        checks.due("constructors of " + around, constructors.size(), 1);
        return constructors.get(0);
    }

    @Override
    public Void visitImport(ImportTree tree, Void none) {
        checks.due("rule 4: import", tree.toString().trim(), "import java.util.Arrays;");
        return null;
    }

    @Override
    public Void visitClass(ClassTree tree, Void none) {
        boolean isOutermost = getCurrentPath().getParentPath().getLeaf() instanceof CompilationUnitTree;
        boolean isInside = getCurrentPath().getParentPath().getLeaf() instanceof ClassTree
                && tree.getModifiers().getFlags().contains(Modifier.STATIC);
        if (!isOutermost && !isInside) {
            refuse(2, tree);
        }
        classes.add(tree.getSimpleName().toString());
        int fields = 0;
        for (Tree member : tree.getMembers()) {
            boolean isField = member instanceof VariableTree field
                    && !field.getModifiers().getFlags().contains(Modifier.STATIC);
            fields += isField ? 1 : 0;
            if (member.getKind() == Tree.Kind.BLOCK) {
                refuse(5, member);
            }
        }
        atMost(11, "fields of " + tree.getSimpleName(), fields, MOST_FIELDS);
        return super.visitClass(tree, none);
    }

    @Override
    public Void visitVariable(VariableTree tree, Void none) {
        String type = tree.getType().toString();
        if (!TYPES.contains(type)) {
            Tree element = tree.getType() instanceof ArrayTypeTree array ? array.getType() : tree.getType();
            Element declared = trees.getElement(new TreePath(getCurrentPath(), element));
            checks.due("rule 3: type " + type + " of " + tree.getName(), declared != null && isOwn(declared), true);
        }
        Set<Modifier> flags = tree.getModifiers().getFlags();
        if (flags.contains(Modifier.STATIC)) {
            checks.due("rule 5: " + tree.getName() + " is final", flags.contains(Modifier.FINAL), true);
            checks.due("rule 5: type of " + tree.getName(), type, "int");
        }
        return super.visitVariable(tree, none);
    }

    @Override
    public Void visitMethod(MethodTree tree, Void none) {
        calls.computeIfAbsent(methodAround(), method -> new HashSet<>());
        atMost(11, "parameters of " + tree.getName(), tree.getParameters().size(), MOST_PARAMETERS);
        long first = lineOf(trees.getSourcePositions().getStartPosition(unit, tree));
        long last = lineOf(Math.max(0, trees.getSourcePositions().getEndPosition(unit, tree)));
        atMost(11, "lines of " + tree.getName(), (int) (last - first + 1), MOST_LINES);
        return super.visitMethod(tree, none);
    }

    @Override
    public Void visitMethodInvocation(MethodInvocationTree tree, Void none) {
        noteCall((ExecutableElement) trees.getElement(getCurrentPath()));
        return super.visitMethodInvocation(tree, none);
    }

    @Override
    public Void visitNewClass(NewClassTree tree, Void none) {
        noteCall((ExecutableElement) trees.getElement(getCurrentPath()));
        onlyInConstructors(tree);
        return super.visitNewClass(tree, none);
    }

    @Override
    public Void visitNewArray(NewArrayTree tree, Void none) {
        onlyInConstructors(tree);
        checks.due("rule 3: dimensions of an array", tree.getDimensions().size() <= 1, true);
        return super.visitNewArray(tree, none);
    }

    private void noteCall(ExecutableElement called) {
        if (isOwn(called)) {
            calls.computeIfAbsent(methodAround(), method -> new HashSet<>()).add(called);
        } else if (called.getKind() == ElementKind.METHOD) {
            String name = called.getEnclosingElement() + "." + called.getSimpleName();
            checks.due("rule 4: " + name, LIBRARY.contains(name), true);
        }
    }

    /** Rule 12 lets every method make objects; this program promises more in README.md. */
    private void onlyInConstructors(Tree tree) {
        if (methodAround().getKind() != ElementKind.CONSTRUCTOR) {
            refuse(12, tree);
        }
    }

    @Override
    public Void visitForLoop(ForLoopTree tree, Void none) {
        if (tree.getCondition() == null) {
            refuse(9, tree);
        }
        return super.visitForLoop(tree, none);
    }

    /** Rule 9 lets these two be, but counted loops are all that the program needs, and their end is seen at once. */
    @Override
    public Void visitWhileLoop(WhileLoopTree tree, Void none) {
        refuse(9, tree);
        return super.visitWhileLoop(tree, none);
    }

    @Override
    public Void visitDoWhileLoop(DoWhileLoopTree tree, Void none) {
        refuse(9, tree);
        return super.visitDoWhileLoop(tree, none);
    }

    @Override
    public Void visitLambdaExpression(LambdaExpressionTree tree, Void none) {
        refuse(2, tree);
        return super.visitLambdaExpression(tree, none);
    }

    @Override
    public Void visitMemberReference(MemberReferenceTree tree, Void none) {
        refuse(2, tree);
        return super.visitMemberReference(tree, none);
    }

    @Override
    public Void visitThrow(ThrowTree tree, Void none) {
        refuse(6, tree);
        return super.visitThrow(tree, none);
    }

    @Override
    public Void visitTry(TryTree tree, Void none) {
        refuse(6, tree);
        return super.visitTry(tree, none);
    }

    @Override
    public Void visitSynchronized(SynchronizedTree tree, Void none) {
        refuse(6, tree);
        return super.visitSynchronized(tree, none);
    }

    @Override
    public Void visitAssert(AssertTree tree, Void none) {
        refuse(6, tree);
        return super.visitAssert(tree, none);
    }

    @Override
    public Void visitBinary(BinaryTree tree, Void none) {
        if (tree.getKind() == Tree.Kind.DIVIDE || tree.getKind() == Tree.Kind.REMAINDER) {
            boolean isByANumber = tree.getRightOperand().getKind() == Tree.Kind.INT_LITERAL;
            checks.due("rule 7: divisor of " + tree + " is a number", isByANumber, true);
        }
        return super.visitBinary(tree, none);
    }
}
