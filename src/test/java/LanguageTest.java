import com.sun.source.tree.AssertTree;
import com.sun.source.tree.BinaryTree;
import com.sun.source.tree.BlockTree;
import com.sun.source.tree.ClassTree;
import com.sun.source.tree.CompilationUnitTree;
import com.sun.source.tree.CompoundAssignmentTree;
import com.sun.source.tree.LambdaExpressionTree;
import com.sun.source.tree.MemberReferenceTree;
import com.sun.source.tree.MethodInvocationTree;
import com.sun.source.tree.MethodTree;
import com.sun.source.tree.NewClassTree;
import com.sun.source.tree.SynchronizedTree;
import com.sun.source.tree.ThrowTree;
import com.sun.source.tree.Tree;
import com.sun.source.tree.TryTree;
import com.sun.source.tree.TypeCastTree;
import com.sun.source.tree.VariableTree;
import com.sun.source.util.JavacTask;
import com.sun.source.util.TreePathScanner;
import com.sun.source.util.Trees;
import java.io.IOException;
import java.nio.file.Files;
import java.nio.file.Path;
import java.util.HashMap;
import java.util.HashSet;
import java.util.List;
import java.util.Map;
import java.util.Set;
import javax.lang.model.element.Element;
import javax.lang.model.element.ElementKind;
import javax.lang.model.element.ExecutableElement;
import javax.lang.model.element.Modifier;
import javax.lang.model.element.TypeElement;
import javax.lang.model.type.TypeKind;
import javax.tools.JavaCompiler;
import javax.tools.StandardJavaFileManager;
import javax.tools.ToolProvider;

/**
 * Reads the program with the compiler and asks for the rules of ../shared/LANGUAGE.md that can be seen in its text.
 * What the rules allow but the program has no use for (try, recursion, inner classes, ..) is refused too: whoever
 * comes to need it reads the rule again and loosens the test.
 */
final class LanguageTest extends TreePathScanner<Void, Void> {
    private static final Path PROGRAM = Path.of("src/main/java/TakeoffSheet.java");
    private static final Due DUE = new Due();
    private static final int MOST_CLASSES = 12;
    private static final int MOST_FIELDS = 20;
    private static final int MOST_LINES = 60;
    private static final int MOST_PARAMETERS = 7;
    private static final int DEEPEST_CALLS = 8;

    private static final Set<String> EXCEPTIONS = Set.of("IllegalStateException", "IllegalArgumentException",
            "IndexOutOfBoundsException", "ArithmeticException", "UnsupportedOperationException",
            "NoSuchElementException", "RuntimeException");
    private static final Map<String, Set<String>> LIBRARY = Map.of(
            "ArrayList", Set.of("add", "get", "set", "remove", "size", "isEmpty", "clear"),
            "Arrays", Set.of("copyOf", "copyOfRange", "fill"),
            "Math", Set.of("abs", "max", "min", "floorDiv", "floorMod"),
            "Object", Set.of("<init>"));

    private final CompilationUnitTree unit;
    private final Trees trees;
    private final Map<Element, Set<Element>> callsOf = new HashMap<>();
    private final Set<String> publicMethods = new HashSet<>();
    private final Set<String> otherMethods = new HashSet<>();
    private int classes = 0;

    private LanguageTest(CompilationUnitTree unit, Trees trees) {
        this.unit = unit;
        this.trees = trees;
    }

    public static void main(String[] args) throws IOException {
        JavaCompiler compiler = ToolProvider.getSystemJavaCompiler();
        try (StandardJavaFileManager files = compiler.getStandardFileManager(null, null, null)) {
            JavacTask task = (JavacTask) compiler.getTask(null, files, null, List.of("--release", "17", "-proc:none"),
                    null, files.getJavaFileObjects(PROGRAM));
            CompilationUnitTree unit = task.parse().iterator().next();
            task.analyze();
            LanguageTest test = new LanguageTest(unit, Trees.instance(task));
            test.scan(unit, null);
            test.asksOfAll();
        }
        DUE.end("LanguageTest");
    }

    private void asksOfAll() throws IOException {
        boolean plain = Files.readString(PROGRAM).chars().allMatch(sign -> sign >= 1 && sign <= 127);
        DUE.says("signs of 1 to 127 alone", true, plain);
        DUE.says("no package line", true, unit.getPackageName() == null);
        DUE.says("one class of the file's own", true, unit.getTypeDecls().size() == 1);
        DUE.says("few enough classes", true, classes <= MOST_CLASSES);
        for (String name : otherMethods) {
            DUE.says(name + " is the name of a public method alone", false, publicMethods.contains(name));
        }
        for (Element method : callsOf.keySet()) {
            DUE.says(method + " calls at most eight deep", true, depth(method, 1) <= DEEPEST_CALLS);
        }
    }

    /** A recursion is deeper than any bound: the count stops one above it. */
    private int depth(Element method, int depth) {
        int deepest = depth;
        if (depth <= DEEPEST_CALLS) {
            for (Element called : callsOf.getOrDefault(method, Set.of())) {
                deepest = Math.max(deepest, depth(called, depth + 1));
            }
        }
        return deepest;
    }

    private String place(Tree tree) {
        long start = trees.getSourcePositions().getStartPosition(unit, tree);
        return "line " + unit.getLineMap().getLineNumber(start) + ": ";
    }

    private void refuse(String what, Tree tree) {
        DUE.says(place(tree) + what, false, true);
    }

    @Override
    public Void visitClass(ClassTree tree, Void none) {
        classes++;
        Element element = trees.getElement(getCurrentPath());
        boolean inside = element.getEnclosingElement().getKind() != ElementKind.PACKAGE;
        int fields = 0;
        for (Tree member : tree.getMembers()) {
            boolean field = member instanceof VariableTree variable
                    && !variable.getModifiers().getFlags().contains(Modifier.STATIC);
            fields += field ? 1 : 0;
            if (member instanceof BlockTree block && block.isStatic()) {
                refuse("a static initialiser block", block);
            }
        }
        DUE.says(place(tree) + "a class inside is static and named", true,
                !inside || element.getModifiers().contains(Modifier.STATIC) && tree.getSimpleName().length() > 0);
        DUE.says(place(tree) + "few enough fields", true, fields <= MOST_FIELDS);
        return super.visitClass(tree, none);
    }

    @Override
    public Void visitVariable(VariableTree tree, Void none) {
        Set<Modifier> flags = tree.getModifiers().getFlags();
        DUE.says(place(tree) + "what is static is final", true,
                !flags.contains(Modifier.STATIC) || flags.contains(Modifier.FINAL));
        TypeKind kind = trees.getElement(getCurrentPath()).asType().getKind();
        DUE.says(place(tree) + "no double and no float", false, kind == TypeKind.DOUBLE || kind == TypeKind.FLOAT);
        return super.visitVariable(tree, none);
    }

    @Override
    public Void visitMethod(MethodTree tree, Void none) {
        Element method = trees.getElement(getCurrentPath());
        callsOf.computeIfAbsent(method, any -> new HashSet<>());
        String name = tree.getName().toString();
        boolean constructor = name.equals("<init>");
        boolean shown = method.getModifiers().contains(Modifier.PUBLIC);
        if (!constructor) {
            (shown ? publicMethods : otherMethods).add(name);
        }
        DUE.says(place(tree) + "no equals, hashCode or toString", false,
                Set.of("equals", "hashCode", "toString").contains(name));
        DUE.says(place(tree) + "few enough parameters", true, tree.getParameters().size() <= MOST_PARAMETERS);
        DUE.says(place(tree) + "a short method", true, lines(tree) <= MOST_LINES);
        return super.visitMethod(tree, none);
    }

    private long lines(Tree tree) {
        long start = trees.getSourcePositions().getStartPosition(unit, tree);
        long end = trees.getSourcePositions().getEndPosition(unit, tree);
        return start < 0 || end < 0 ? 0
                : unit.getLineMap().getLineNumber(end) - unit.getLineMap().getLineNumber(start) + 1;
    }

    private Tree aroundMethod() {
        var path = getCurrentPath();
        while (path != null && path.getLeaf().getKind() != Tree.Kind.METHOD) {
            path = path.getParentPath();
        }
        return path == null ? null : path.getLeaf();
    }

    @Override
    public Void visitMethodInvocation(MethodInvocationTree tree, Void none) {
        called(trees.getElement(getCurrentPath()), tree);
        return super.visitMethodInvocation(tree, none);
    }

    private void called(Element called, Tree tree) {
        TypeElement owner = (TypeElement) called.getEnclosingElement();
        String name = owner.getQualifiedName().toString();
        if (name.startsWith("TakeoffSheet")) {
            Tree around = aroundMethod();
            if (around != null) {
                Element caller = trees.getElement(trees.getPath(unit, around));
                callsOf.computeIfAbsent(caller, any -> new HashSet<>()).add(called);
            }
            return;
        }
        Set<String> allowed = LIBRARY.getOrDefault(owner.getSimpleName().toString(), Set.of());
        boolean ofJava = name.startsWith("java.lang.") || name.startsWith("java.util.");
        DUE.says(place(tree) + name + "." + called.getSimpleName() + " stands in the library's list", true,
                ofJava && allowed.contains(called.getSimpleName().toString()));
    }

    @Override
    public Void visitNewClass(NewClassTree tree, Void none) {
        ExecutableElement made = (ExecutableElement) trees.getElement(getCurrentPath());
        String name = ((TypeElement) made.getEnclosingElement()).getQualifiedName().toString();
        boolean exception = getCurrentPath().getParentPath().getLeaf() instanceof ThrowTree;
        DUE.says(place(tree) + "makes a " + name, true,
                exception || name.startsWith("TakeoffSheet") || name.equals("java.util.ArrayList"));
        return super.visitNewClass(tree, none);
    }

    @Override
    public Void visitThrow(ThrowTree tree, Void none) {
        boolean made = tree.getExpression() instanceof NewClassTree thrown
                && EXCEPTIONS.contains(thrown.getIdentifier().toString())
                && thrown.getArguments().stream().allMatch(text -> text.getKind() == Tree.Kind.STRING_LITERAL);
        DUE.says(place(tree) + "throws a new exception of the list, with a written text", true, made);
        boolean inConstructor = aroundMethod() instanceof MethodTree method && method.getName().contentEquals("<init>");
        DUE.says(place(tree) + "throws in a constructor", false, inConstructor);
        return super.visitThrow(tree, none);
    }

    @Override
    public Void visitBinary(BinaryTree tree, Void none) {
        boolean text = trees.getTypeMirror(getCurrentPath()).getKind() == TypeKind.DECLARED;
        DUE.says(place(tree) + "joins texts by +", false, text);
        return super.visitBinary(tree, none);
    }

    @Override
    public Void visitCompoundAssignment(CompoundAssignmentTree tree, Void none) {
        boolean text = trees.getTypeMirror(getCurrentPath()).getKind() == TypeKind.DECLARED;
        DUE.says(place(tree) + "joins texts by +=", false, text);
        return super.visitCompoundAssignment(tree, none);
    }

    @Override
    public Void visitTry(TryTree tree, Void none) {
        refuse("try", tree);
        return super.visitTry(tree, none);
    }

    @Override
    public Void visitTypeCast(TypeCastTree tree, Void none) {
        boolean ofNumbers = trees.getTypeMirror(getCurrentPath()).getKind().isPrimitive();
        DUE.says(place(tree) + "a cast of numbers", true, ofNumbers);
        return super.visitTypeCast(tree, none);
    }

    @Override
    public Void visitLambdaExpression(LambdaExpressionTree tree, Void none) {
        refuse("a lambda", tree);
        return super.visitLambdaExpression(tree, none);
    }

    @Override
    public Void visitMemberReference(MemberReferenceTree tree, Void none) {
        refuse("a method reference", tree);
        return super.visitMemberReference(tree, none);
    }

    @Override
    public Void visitSynchronized(SynchronizedTree tree, Void none) {
        refuse("synchronized", tree);
        return super.visitSynchronized(tree, none);
    }

    @Override
    public Void visitAssert(AssertTree tree, Void none) {
        refuse("assert", tree);
        return super.visitAssert(tree, none);
    }
}
