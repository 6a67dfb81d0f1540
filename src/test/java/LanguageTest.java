import com.sun.source.tree.AssertTree;
import com.sun.source.tree.BinaryTree;
import com.sun.source.tree.ClassTree;
import com.sun.source.tree.CompilationUnitTree;
import com.sun.source.tree.ExpressionTree;
import com.sun.source.tree.ImportTree;
import com.sun.source.tree.LambdaExpressionTree;
import com.sun.source.tree.MemberReferenceTree;
import com.sun.source.tree.MethodInvocationTree;
import com.sun.source.tree.MethodTree;
import com.sun.source.tree.NewClassTree;
import com.sun.source.tree.SynchronizedTree;
import com.sun.source.tree.ThrowTree;
import com.sun.source.tree.Tree;
import com.sun.source.tree.TryTree;
import com.sun.source.tree.VariableTree;
import com.sun.source.util.JavacTask;
import com.sun.source.util.SourcePositions;
import com.sun.source.util.TreePathScanner;
import com.sun.source.util.Trees;
import java.io.File;
import java.lang.reflect.Method;
import java.lang.reflect.Modifier;
import java.util.HashMap;
import java.util.HashSet;
import java.util.List;
import java.util.Map;
import java.util.Set;
import java.util.TreeSet;
import javax.lang.model.element.Element;
import javax.lang.model.element.ExecutableElement;
import javax.lang.model.type.TypeKind;
import javax.tools.JavaCompiler;
import javax.tools.StandardJavaFileManager;
import javax.tools.ToolProvider;

/** Looks at the source of ZoneCompiler for what LANGUAGE.md rules out, and at its face for what the document tells. */
public final class LanguageTest extends TreePathScanner<Void, Void> {

    private static final File SOURCE = new File("src/main/java/ZoneCompiler.java");
    /** Name, parameters, result of each method, exceptions: i index, a argument, s state, n no element, u unsupported. */
    private static final String FACE = """
            day 3 int a, date 2 int ia, addZone 1 int as, changeBase 3 int ias, addRule 6 int ias, dropRule 2 int i, \
            zone 2 int ia, rule 3 int ia, eventDay 3 int ian, transition 3 int ian, voidEvent 3 int ian, \
            offset 2 int ia, offsetAgain 2 int ia, toLocal 2 int ia, instants 2 int ia, instantsAgain 2 int ia, \
            cause 2 int ia, toInstant 3 int iau, convert 4 int iau, dayLength 2 int i, account 3 int ia, \
            addMeeting 6 int ias, recur 4 int ia, cancel 2 int i, shift 3 int ia, meeting 2 int ia, \
            occurrence 3 int ian, next 2 int ian, clash 2 int i, agenda 2 int an, drift 2 int i, free 3 int an, \
            append 1 int as, run 0 int as, errorPosition 0 int, write 2 int i, character 1 char i, undo 0 int s, \
            save 0 int, restore 0 int s, count 1 int a""";
    private static final Set<String> THROWN = Set.of("IndexOutOfBoundsException", "IllegalArgumentException",
            "IllegalStateException", "NoSuchElementException", "UnsupportedOperationException");
    private static final Set<String> LIBRARY = Set.of("Math", "System", "String", "StringBuilder", "Object");

    private static int wrong;

    private final CompilationUnitTree unit;
    private final Trees trees;
    private final Map<Element, Set<Element>> calls = new HashMap<>();
    private final Set<String> faceNames = new HashSet<>();
    private int classes;
    private Element method;

    private LanguageTest(CompilationUnitTree unit, Trees trees) {
        this.unit = unit;
        this.trees = trees;
        for (String entry : FACE.split(", ")) {
            faceNames.add(entry.split(" ")[0]);
        }
    }

    public static void main(String[] args) throws Exception {
        JavaCompiler compiler = ToolProvider.getSystemJavaCompiler();
        try (StandardJavaFileManager files = compiler.getStandardFileManager(null, null, null)) {
            JavacTask task = (JavacTask) compiler.getTask(null, files, null, List.of("-proc:none"), null,
                    files.getJavaFileObjects(SOURCE));
            CompilationUnitTree unit = task.parse().iterator().next();
            task.analyze();
            LanguageTest test = new LanguageTest(unit, Trees.instance(task));
            test.scan(unit, null);
            test.checkDepth();
        }
        checkFace();
        if (wrong > 0) {
            System.exit(1);
        }
        System.out.println("the source keeps to the rules that are looked at");
    }

    private static void fault(String text) {
        wrong++;
        System.out.println(text);
    }

    // ---- rule 1

    private static void checkFace() {
        Set<String> due = new TreeSet<>(List.of(FACE.split(", ")));
        Set<String> got = new TreeSet<>();
        for (Method at : ZoneCompiler.class.getDeclaredMethods()) {
            if (!Modifier.isPrivate(at.getModifiers()) && !at.isSynthetic()) {
                StringBuilder thrown = new StringBuilder();
                for (Class<?> type : at.getExceptionTypes()) {
                    thrown.append(switch (type.getSimpleName()) {
                        case "IndexOutOfBoundsException" -> "i";
                        case "IllegalArgumentException" -> "a";
                        case "IllegalStateException" -> "s";
                        case "NoSuchElementException" -> "n";
                        default -> "u";
                    });
                }
                // The order in which exceptions are declared is no matter of the face; the document's is kept here.
                String sorted = thrown.toString().replace("ina", "ian");
                got.add((at.getName() + " " + at.getParameterCount() + " " + at.getReturnType() + " " + sorted).trim());
            }
        }
        if (!due.equals(got)) {
            fault("the face is " + got + ", due is " + due);
        }
        int modifiers = ZoneCompiler.class.getModifiers();
        if (!Modifier.isPublic(modifiers) || !Modifier.isFinal(modifiers)
                || ZoneCompiler.class.getDeclaredConstructors().length != 1) {
            fault("the class is not public and final with one constructor");
        }
        for (var field : ZoneCompiler.class.getDeclaredFields()) {
            if (!Modifier.isPrivate(field.getModifiers())) {
                fault("the field " + field.getName() + " is seen outside");
            }
        }
    }

    // ---- rules 2, 4, 6, 11

    @Override
    public Void visitImport(ImportTree tree, Void none) {
        if (!tree.getQualifiedIdentifier().toString().equals("java.util.NoSuchElementException")) {
            fault("an import of " + tree.getQualifiedIdentifier());
        }
        return super.visitImport(tree, none);
    }

    @Override
    public Void visitClass(ClassTree tree, Void none) {
        classes++;
        if (classes > 12) {
            fault("more than 12 classes");
        }
        Tree.Kind parent = getCurrentPath().getParentPath().getLeaf().getKind();
        if (parent != Tree.Kind.COMPILATION_UNIT && parent != Tree.Kind.CLASS) {
            fault("a local or anonymous class");
        }
        boolean isStatic = tree.getModifiers().getFlags().contains(javax.lang.model.element.Modifier.STATIC);
        if (parent == Tree.Kind.CLASS && !isStatic) {
            fault(tree.getSimpleName() + " is an inner class");
        }
        long fields = tree.getMembers().stream().filter(member -> member instanceof VariableTree field
                && !field.getModifiers().getFlags().contains(javax.lang.model.element.Modifier.STATIC)).count();
        if (fields > 20) {
            fault(tree.getSimpleName() + " has " + fields + " fields");
        }
        return super.visitClass(tree, none);
    }

    @Override
    public Void visitVariable(VariableTree tree, Void none) {
        var flags = tree.getModifiers().getFlags();
        if (flags.contains(javax.lang.model.element.Modifier.STATIC)
                && !flags.contains(javax.lang.model.element.Modifier.FINAL)) {
            fault("a static field that is not final: " + tree.getName());
        }
        return super.visitVariable(tree, none);
    }

    @Override
    public Void visitMethod(MethodTree tree, Void none) {
        SourcePositions positions = trees.getSourcePositions();
        long first = unit.getLineMap().getLineNumber(positions.getStartPosition(unit, tree));
        long last = unit.getLineMap().getLineNumber(positions.getEndPosition(unit, tree));
        if (last - first > 60) {
            fault(tree.getName() + " has " + (last - first) + " lines");
        }
        if (tree.getParameters().size() > 7) {
            fault(tree.getName() + " has too many parameters");
        }
        boolean isPublic = tree.getModifiers().getFlags().contains(javax.lang.model.element.Modifier.PUBLIC);
        if (!isPublic && faceNames.contains(tree.getName().toString())) {
            fault(tree.getName() + " bears the name of a public method");
        }
        Element outer = method;
        method = trees.getElement(getCurrentPath());
        super.visitMethod(tree, none);
        method = outer;
        return null;
    }

    @Override
    public Void visitMethodInvocation(MethodInvocationTree tree, Void none) {
        called(trees.getElement(getCurrentPath()));
        return super.visitMethodInvocation(tree, none);
    }

    @Override
    public Void visitNewClass(NewClassTree tree, Void none) {
        Element made = trees.getElement(getCurrentPath());
        if (!THROWN.contains(tree.getIdentifier().toString())) {
            called(made);
        }
        return super.visitNewClass(tree, none);
    }

    private void called(Element element) {
        Element owner = element.getEnclosingElement();
        if (owner.toString().startsWith("ZoneCompiler")) {
            calls.computeIfAbsent(method, key -> new HashSet<>()).add(element);
        } else if (!LIBRARY.contains(owner.getSimpleName().toString())
                || element.getSimpleName().toString().endsWith("Exact")) {
            fault("a call of " + owner + "." + element);
        }
    }

    @Override
    public Void visitBinary(BinaryTree tree, Void none) {
        boolean text = isText(tree.getLeftOperand()) || isText(tree.getRightOperand());
        if (text && tree.getKind() == Tree.Kind.PLUS) {
            fault("a text is joined by +: " + tree);
        }
        return super.visitBinary(tree, none);
    }

    private boolean isText(ExpressionTree tree) {
        var type = trees.getTypeMirror(new com.sun.source.util.TreePath(getCurrentPath(), tree));
        return type != null && type.getKind() == TypeKind.DECLARED && type.toString().equals("java.lang.String");
    }

    @Override
    public Void visitThrow(ThrowTree tree, Void none) {
        boolean made = tree.getExpression() instanceof NewClassTree thrown
                && THROWN.contains(thrown.getIdentifier().toString());
        if (!made) {
            fault("a throw of something else than the document's exceptions: " + tree);
        }
        return super.visitThrow(tree, none);
    }

    @Override
    public Void visitTry(TryTree tree, Void none) {
        fault("a try");
        return super.visitTry(tree, none);
    }

    @Override
    public Void visitLambdaExpression(LambdaExpressionTree tree, Void none) {
        fault("a lambda");
        return super.visitLambdaExpression(tree, none);
    }

    @Override
    public Void visitMemberReference(MemberReferenceTree tree, Void none) {
        fault("a method reference");
        return super.visitMemberReference(tree, none);
    }

    @Override
    public Void visitSynchronized(SynchronizedTree tree, Void none) {
        fault("synchronized");
        return super.visitSynchronized(tree, none);
    }

    @Override
    public Void visitAssert(AssertTree tree, Void none) {
        fault("an assert");
        return super.visitAssert(tree, none);
    }

    // ---- rules 8 and 11: no recursion, and calls at most eight deep

    private void checkDepth() {
        int deepest = 0;
        for (Element start : calls.keySet()) {
            deepest = Math.max(deepest, depth(start, new HashSet<>()));
        }
        if (deepest > 8) {
            fault("calls go " + deepest + " deep");
        }
        System.out.println("calls go " + deepest + " deep");
    }

    private int depth(Element at, Set<Element> open) {
        if (!open.add(at)) {
            fault(((ExecutableElement) at).getSimpleName() + " calls itself");
            return 0;
        }
        int deepest = 0;
        for (Element next : calls.getOrDefault(at, Set.of())) {
            deepest = Math.max(deepest, depth(next, open));
        }
        open.remove(at);
        return deepest + 1;
    }
}
