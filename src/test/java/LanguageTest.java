import com.sun.source.tree.AssertTree;
import com.sun.source.tree.AssignmentTree;
import com.sun.source.tree.BinaryTree;
import com.sun.source.tree.BlockTree;
import com.sun.source.tree.ClassTree;
import com.sun.source.tree.CompilationUnitTree;
import com.sun.source.tree.CompoundAssignmentTree;
import com.sun.source.tree.DoWhileLoopTree;
import com.sun.source.tree.ExpressionTree;
import com.sun.source.tree.ForLoopTree;
import com.sun.source.tree.LambdaExpressionTree;
import com.sun.source.tree.MemberReferenceTree;
import com.sun.source.tree.MethodInvocationTree;
import com.sun.source.tree.MethodTree;
import com.sun.source.tree.NewClassTree;
import com.sun.source.tree.SynchronizedTree;
import com.sun.source.tree.ThrowTree;
import com.sun.source.tree.Tree;
import com.sun.source.tree.TryTree;
import com.sun.source.tree.TypeCastTree;
import com.sun.source.tree.VariableTree;
import com.sun.source.tree.WhileLoopTree;
import com.sun.source.util.JavacTask;
import com.sun.source.util.TreePath;
import com.sun.source.util.TreePathScanner;
import com.sun.source.util.Trees;
import java.io.IOException;
import java.nio.file.Path;
import java.util.HashMap;
import java.util.HashSet;
import java.util.LinkedHashMap;
import java.util.LinkedHashSet;
import java.util.List;
import java.util.Map;
import java.util.Set;
import javax.lang.model.element.Element;
import javax.lang.model.element.ElementKind;
import javax.lang.model.element.ExecutableElement;
import javax.lang.model.element.Modifier;
import javax.lang.model.element.NestingKind;
import javax.lang.model.element.TypeElement;
import javax.lang.model.element.VariableElement;
import javax.lang.model.type.DeclaredType;
import javax.lang.model.type.TypeKind;
import javax.lang.model.type.TypeMirror;
import javax.tools.JavaCompiler;
import javax.tools.StandardJavaFileManager;
import javax.tools.ToolProvider;

/**
 * The rules of ../shared/LANGUAGE.md that can be seen in the class's text. The test allows less
 * than the rules do where the class needs less: no arrays, no casts, no recursion, no texts.
 */
public final class LanguageTest extends TreePathScanner<Void, Void> {
    private static final Path MAIN = Path.of("src/main/java/TroubleMemory.java");
    private static final int MOST_PARAMETERS = 7;
    private static final int MOST_LINES = 60;
    private static final int MOST_DEEP = 8;
    private static final int MOST_CLASSES = 12;
    private static final int MOST_FIELDS = 20;
    private static final Set<String> LIBRARY = Set.of(
            "java.lang.Object.<init>()",
            "java.lang.Math.max(int,int)", "java.lang.Math.min(int,int)", "java.lang.Integer.bitCount(int)",
            "java.util.ArrayList.<init>()", "java.util.ArrayList.add(E)", "java.util.ArrayList.get(int)",
            "java.util.ArrayList.remove(int)", "java.util.ArrayList.size()");

    private static int wrong = 0;

    private final CompilationUnitTree unit;
    private final Trees trees;
    private final Map<String, Set<String>> calls = new LinkedHashMap<>();
    private final Set<String> publicNames = new HashSet<>();
    private int classes = 0;
    private String method = "";

    private LanguageTest(CompilationUnitTree unit, Trees trees) {
        this.unit = unit;
        this.trees = trees;
    }

    public static void main(String[] args) throws IOException {
        JavaCompiler compiler = ToolProvider.getSystemJavaCompiler();
        try (StandardJavaFileManager files = compiler.getStandardFileManager(null, null, null)) {
            JavacTask task = (JavacTask) compiler.getTask(
                    null, files, null, List.of("--release", "17"), null, files.getJavaFileObjects(MAIN));
            CompilationUnitTree unit = task.parse().iterator().next();
            task.analyze();
            LanguageTest test = new LanguageTest(unit, Trees.instance(task));
            test.scan(new TreePath(unit), null);
            test.wholeFile();
        }
        if (wrong != 0) {
            System.exit(1);
        }
    }

    private void refuse(int rule, Tree tree, String what) {
        wrong++;
        System.out.println("LANGUAGE.md, rule " + rule + ": line " + line(position(tree)) + ": " + what);
    }

    private void hold(boolean holds, int rule, Tree tree, String what) {
        if (!holds) {
            refuse(rule, tree, what);
        }
    }

    private long position(Tree tree) {
        return trees.getSourcePositions().getStartPosition(unit, tree);
    }

    private long line(long position) {
        return position < 0 ? 0 : unit.getLineMap().getLineNumber(position);
    }

    private Element element() {
        return trees.getElement(getCurrentPath());
    }

    private TypeMirror type(Tree tree) {
        return trees.getTypeMirror(new TreePath(getCurrentPath(), tree));
    }

    private void wholeFile() {
        hold(unit.getPackage() == null, 1, unit, "a package line");
        hold(unit.getTypeDecls().size() == 1, 1, unit, "more than one class outside");
        hold(classes <= MOST_CLASSES, 11, unit, classes + " classes");
        Map<String, Integer> deep = new HashMap<>();
        for (String each : calls.keySet()) {
            int depth = depth(each, deep, new LinkedHashSet<>());
            hold(depth <= MOST_DEEP, 11, unit, each + " goes " + depth + " calls deep");
        }
    }

    /** How many calls stand open at once below this one, and it; a call that comes back to itself is refused. */
    private int depth(String called, Map<String, Integer> known, Set<String> open) {
        if (!open.add(called)) {
            refuse(8, unit, "recursion: " + open);
            return 0;
        }
        if (!known.containsKey(called)) {
            int deepest = 0;
            for (String next : calls.getOrDefault(called, Set.of())) {
                deepest = Math.max(deepest, depth(next, known, open));
            }
            known.put(called, deepest + 1);
        }
        open.remove(called);
        return known.get(called);
    }

    @Override
    public Void visitClass(ClassTree tree, Void none) {
        classes++;
        TypeElement made = (TypeElement) element();
        Set<Modifier> modifiers = made.getModifiers();
        if (made.getNestingKind() == NestingKind.TOP_LEVEL) {
            hold(modifiers.contains(Modifier.PUBLIC) && modifiers.contains(Modifier.FINAL), 1, tree, "the class");
            made.getEnclosedElements().stream()
                    .filter(e -> e.getModifiers().contains(Modifier.PUBLIC))
                    .forEach(e -> publicNames.add(e.getSimpleName().toString()));
        } else {
            hold(made.getNestingKind() == NestingKind.MEMBER, 2, tree, "a local class");
            hold(modifiers.contains(Modifier.STATIC), 2, tree, "a class inside that is not static");
            hold(!modifiers.contains(Modifier.PUBLIC) && !modifiers.contains(Modifier.PROTECTED), 1, tree,
                    "a class inside that others see");
        }
        long fields = made.getEnclosedElements().stream()
                .filter(e -> e.getKind() == ElementKind.FIELD && !e.getModifiers().contains(Modifier.STATIC))
                .count();
        hold(fields <= MOST_FIELDS, 11, tree, fields + " fields");
        for (Tree member : tree.getMembers()) {
            hold(!(member instanceof BlockTree), 5, member, "an initialiser block");
        }
        return super.visitClass(tree, none);
    }

    @Override
    public Void visitMethod(MethodTree tree, Void none) {
        ExecutableElement made = (ExecutableElement) element();
        String name = made.getSimpleName().toString();
        if (made.getKind() == ElementKind.METHOD && !made.getModifiers().contains(Modifier.PUBLIC)) {
            hold(!publicNames.contains(name), 1, tree, "a method of its own with a public one's name: " + name);
        }
        hold(!Set.of("equals", "hashCode", "toString").contains(name), 6, tree, name);
        hold(tree.getParameters().size() <= MOST_PARAMETERS, 11, tree, tree.getParameters().size() + " parameters");
        hold(tree.getThrows().isEmpty(), 6, tree, "throws");
        long last = trees.getSourcePositions().getEndPosition(unit, tree);
        long lines = line(last) - line(position(tree)) + 1;
        hold(lines <= MOST_LINES, 11, tree, name + " has " + lines + " lines");
        String before = method;
        method = full(made);
        calls.putIfAbsent(method, new LinkedHashSet<>());
        super.visitMethod(tree, none);
        method = before;
        return null;
    }

    @Override
    public Void visitVariable(VariableTree tree, Void none) {
        VariableElement made = (VariableElement) element();
        hold(isAllowed(made.asType()), 3, tree, "a variable of type " + made.asType());
        if (made.getKind() == ElementKind.FIELD && made.getModifiers().contains(Modifier.STATIC)) {
            hold(made.getConstantValue() != null, 5, tree, "static, and no constant: " + made);
        }
        return super.visitVariable(tree, none);
    }

    private boolean isAllowed(TypeMirror type) {
        if (type.getKind() == TypeKind.INT || type.getKind() == TypeKind.BOOLEAN) {
            return true;
        }
        if (!(type instanceof DeclaredType declared)) {
            return false;
        }
        if (isOwn(declared.asElement())) {
            return true;
        }
        return declared.asElement().toString().equals("java.util.ArrayList")
                && declared.getTypeArguments().size() == 1
                && declared.getTypeArguments().get(0) instanceof DeclaredType held
                && isOwn(held.asElement());
    }

    /** Whether it stands in the class's file. */
    private static boolean isOwn(Element element) {
        Element outer = element;
        while (outer.getEnclosingElement() != null && outer.getEnclosingElement().getKind() != ElementKind.PACKAGE) {
            outer = outer.getEnclosingElement();
        }
        return outer.toString().equals("TroubleMemory");
    }

    @Override
    public Void visitMethodInvocation(MethodInvocationTree tree, Void none) {
        call(tree, trees.getElement(new TreePath(getCurrentPath(), tree.getMethodSelect())));
        return super.visitMethodInvocation(tree, none);
    }

    @Override
    public Void visitNewClass(NewClassTree tree, Void none) {
        hold(tree.getClassBody() == null, 2, tree, "an anonymous class");
        call(tree, element());
        return super.visitNewClass(tree, none);
    }

    private void call(Tree tree, Element called) {
        String name = full(called);
        if (isOwn(called)) {
            calls.computeIfAbsent(method, m -> new LinkedHashSet<>()).add(name);
        } else {
            hold(LIBRARY.contains(name), 4, tree, "the library's " + name);
        }
    }

    private static String full(Element called) {
        ExecutableElement one = (ExecutableElement) called;
        return one.getEnclosingElement() + "." + (one.getKind() == ElementKind.CONSTRUCTOR
                ? one.toString().replaceFirst("^[^(]*", "<init>")
                : one.toString());
    }

    @Override
    public Void visitBinary(BinaryTree tree, Void none) {
        hold(type(tree.getLeftOperand()).getKind() != TypeKind.DECLARED || isComparison(tree), 10, tree,
                "objects in " + tree);
        if (tree.getKind() == Tree.Kind.DIVIDE || tree.getKind() == Tree.Kind.REMAINDER) {
            hold(isConstantButZero(tree.getRightOperand()), 7, tree, "a divisor that may be 0: " + tree);
        }
        return super.visitBinary(tree, none);
    }

    private static boolean isComparison(BinaryTree tree) {
        return tree.getKind() == Tree.Kind.EQUAL_TO || tree.getKind() == Tree.Kind.NOT_EQUAL_TO;
    }

    private boolean isConstantButZero(ExpressionTree divisor) {
        return trees.getElement(new TreePath(getCurrentPath(), divisor)) instanceof VariableElement named
                && named.getConstantValue() instanceof Integer value
                && value != 0;
    }

    @Override
    public Void visitCompoundAssignment(CompoundAssignmentTree tree, Void none) {
        hold(tree.getKind() != Tree.Kind.DIVIDE_ASSIGNMENT && tree.getKind() != Tree.Kind.REMAINDER_ASSIGNMENT,
                7, tree, "a divisor that may be 0: " + tree);
        hold(type(tree.getVariable()).getKind() == TypeKind.INT, 10, tree, "objects in " + tree);
        return super.visitCompoundAssignment(tree, none);
    }

    @Override
    public Void visitAssignment(AssignmentTree tree, Void none) {
        hold(isAllowed(type(tree.getVariable())), 3, tree, "a value of type " + type(tree.getVariable()));
        return super.visitAssignment(tree, none);
    }

    /** A counter against a bound: the class has no other loop. */
    @Override
    public Void visitForLoop(ForLoopTree tree, Void none) {
        String condition = String.valueOf(tree.getCondition());
        hold(condition.matches("(.* && )?\\w+ < [\\w.()]+( && .*)?") && !condition.contains("||"), 9, tree,
                "no end is seen: " + condition);
        return super.visitForLoop(tree, none);
    }

    @Override
    public Void visitWhileLoop(WhileLoopTree tree, Void none) {
        refuse(9, tree, "a while");
        return super.visitWhileLoop(tree, none);
    }

    @Override
    public Void visitDoWhileLoop(DoWhileLoopTree tree, Void none) {
        refuse(9, tree, "a do");
        return super.visitDoWhileLoop(tree, none);
    }

    @Override
    public Void visitTypeCast(TypeCastTree tree, Void none) {
        refuse(6, tree, "a cast");
        return super.visitTypeCast(tree, none);
    }

    @Override
    public Void visitThrow(ThrowTree tree, Void none) {
        refuse(6, tree, "throw");
        return super.visitThrow(tree, none);
    }

    @Override
    public Void visitTry(TryTree tree, Void none) {
        refuse(6, tree, "try");
        return super.visitTry(tree, none);
    }

    @Override
    public Void visitSynchronized(SynchronizedTree tree, Void none) {
        refuse(6, tree, "synchronized");
        return super.visitSynchronized(tree, none);
    }

    @Override
    public Void visitAssert(AssertTree tree, Void none) {
        refuse(6, tree, "assert");
        return super.visitAssert(tree, none);
    }

    @Override
    public Void visitLambdaExpression(LambdaExpressionTree tree, Void none) {
        refuse(2, tree, "a lambda");
        return super.visitLambdaExpression(tree, none);
    }

    @Override
    public Void visitMemberReference(MemberReferenceTree tree, Void none) {
        refuse(2, tree, "a method reference");
        return super.visitMemberReference(tree, none);
    }
}
