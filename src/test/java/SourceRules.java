import com.sun.source.tree.AssertTree;
import com.sun.source.tree.BinaryTree;
import com.sun.source.tree.ClassTree;
import com.sun.source.tree.CompilationUnitTree;
import com.sun.source.tree.DoWhileLoopTree;
import com.sun.source.tree.ForLoopTree;
import com.sun.source.tree.ImportTree;
import com.sun.source.tree.LambdaExpressionTree;
import com.sun.source.tree.MemberReferenceTree;
import com.sun.source.tree.MethodInvocationTree;
import com.sun.source.tree.MethodTree;
import com.sun.source.tree.NewArrayTree;
import com.sun.source.tree.NewClassTree;
import com.sun.source.tree.SynchronizedTree;
import com.sun.source.tree.ThrowTree;
import com.sun.source.tree.Tree;
import com.sun.source.tree.TryTree;
import com.sun.source.tree.VariableTree;
import com.sun.source.tree.WhileLoopTree;
import com.sun.source.util.JavacTask;
import com.sun.source.util.SourcePositions;
import com.sun.source.util.TreePath;
import com.sun.source.util.TreePathScanner;
import com.sun.source.util.Trees;
import java.io.IOException;
import java.nio.file.Path;
import java.util.ArrayList;
import java.util.HashMap;
import java.util.HashSet;
import java.util.List;
import java.util.Map;
import java.util.Set;
import java.util.TreeSet;
import javax.lang.model.element.Element;
import javax.lang.model.element.ElementKind;
import javax.lang.model.element.ExecutableElement;
import javax.lang.model.element.Modifier;
import javax.lang.model.element.TypeElement;
import javax.lang.model.element.VariableElement;
import javax.lang.model.type.ArrayType;
import javax.lang.model.type.DeclaredType;
import javax.lang.model.type.TypeKind;
import javax.lang.model.type.TypeMirror;
import javax.tools.JavaCompiler;
import javax.tools.StandardJavaFileManager;
import javax.tools.ToolProvider;

/** Reads the source as the compiler does, and gathers what is against a rule of ../shared/LANGUAGE.md. */
final class SourceRules extends TreePathScanner<Void, Void> {
    private static final Map<String, Set<String>> LIBRARY = Map.of(
            "String", Set.of("length", "charAt", "isEmpty", "equals", "indexOf", "substring", "toCharArray"),
            "StringBuilder", Set.of("append", "charAt", "setCharAt", "setLength", "deleteCharAt", "reverse", "length",
                    "toString"),
            "ArrayList", Set.of("add", "get", "set", "remove", "size", "isEmpty", "clear"),
            "List", Set.of("add", "get", "set", "remove", "size", "isEmpty", "clear", "of"),
            "System", Set.of("arraycopy"),
            "Arrays", Set.of("copyOf", "copyOfRange", "fill"));
    private static final Set<String> FUNCTIONS = Set.of("Integer", "Long", "Math");
    private static final Set<String> TYPES = Set.of("String", "StringBuilder", "Integer", "ArrayList", "List");
    private static final Set<String> IMPORTS = Set.of("java.util.ArrayList", "java.util.List", "java.util.Arrays",
            "java.util.Iterator", "java.util.NoSuchElementException");
    private static final Set<String> EXCEPTIONS = Set.of("IllegalStateException", "IllegalArgumentException",
            "IndexOutOfBoundsException", "ArithmeticException", "UnsupportedOperationException",
            "NoSuchElementException", "RuntimeException");
    private static final int MOST_LINES = 60;
    private static final int MOST_DEEP = 8;

    final Set<String> broken = new TreeSet<>();
    private final Map<ExecutableElement, Set<ExecutableElement>> calls = new HashMap<>();
    private final Set<ExecutableElement> makers = new HashSet<>();
    private final Trees trees;
    private final SourcePositions positions;
    private final CompilationUnitTree unit;
    private ExecutableElement inMethod;
    private int loops;

    SourceRules(Path source) throws IOException {
        JavaCompiler compiler = ToolProvider.getSystemJavaCompiler();
        StandardJavaFileManager files = compiler.getStandardFileManager(null, null, null);
        JavacTask task = (JavacTask) compiler.getTask(null, files, null, List.of("-proc:none"), null,
                files.getJavaFileObjects(source));
        unit = task.parse().iterator().next();
        task.analyze();
        trees = Trees.instance(task);
        positions = trees.getSourcePositions();
        if (unit.getPackageName() != null) {
            broken.add("a package line");
        }
        scan(unit, null);
        recursionAndDepth();
        makersOfObjects();
    }

    private void rule(int number, String what, Tree at) {
        long line = unit.getLineMap().getLineNumber(positions.getStartPosition(unit, at));
        broken.add("rule " + number + ", line " + line + ": " + what);
    }

    private Element element(Tree tree) {
        return trees.getElement(new TreePath(getCurrentPath(), tree));
    }

    private static boolean isOwn(Element element) {
        Element outer = element;
        while (outer.getEnclosingElement() != null && outer.getEnclosingElement().getKind() != ElementKind.PACKAGE) {
            outer = outer.getEnclosingElement();
        }
        return outer.getSimpleName().contentEquals("Leadchapel");
    }

    // ---- rules 2 and 4: what is not there at all

    @Override
    public Void visitImport(ImportTree tree, Void none) {
        if (!IMPORTS.contains(tree.getQualifiedIdentifier().toString())) {
            rule(4, "an import", tree);
        }
        return null;
    }

    @Override
    public Void visitLambdaExpression(LambdaExpressionTree tree, Void none) {
        rule(2, "a lambda", tree);
        return null;
    }

    @Override
    public Void visitMemberReference(MemberReferenceTree tree, Void none) {
        rule(2, "a method reference", tree);
        return null;
    }

    @Override
    public Void visitTry(TryTree tree, Void none) {
        rule(6, "a try, for which there is no need", tree);
        return super.visitTry(tree, none);
    }

    @Override
    public Void visitSynchronized(SynchronizedTree tree, Void none) {
        rule(6, "synchronized", tree);
        return null;
    }

    @Override
    public Void visitAssert(AssertTree tree, Void none) {
        rule(6, "an assert", tree);
        return null;
    }

    @Override
    public Void visitClass(ClassTree tree, Void none) {
        TypeElement its = (TypeElement) trees.getElement(getCurrentPath());
        boolean isFace = its.getEnclosingElement().getKind() == ElementKind.PACKAGE;
        Set<Modifier> has = its.getModifiers();
        if (!has.contains(Modifier.FINAL)) {
            rule(12, its + " could be made another class of, which overrides", tree);
        }
        if (!isFace && (!has.contains(Modifier.STATIC) || inMethod != null)) {
            rule(2, its + " is not a static class inside", tree);
        }
        for (Tree member : tree.getMembers()) {
            if (member.getKind() == Tree.Kind.BLOCK) {
                rule(5, "an initialiser block", member);
            }
        }
        return super.visitClass(tree, none);
    }

    // ---- rules 3 and 5: types and fields

    @Override
    public Void visitVariable(VariableTree tree, Void none) {
        VariableElement its = (VariableElement) trees.getElement(getCurrentPath());
        dueType(its.asType(), tree);
        boolean isStaticField = its.getKind() == ElementKind.FIELD && its.getModifiers().contains(Modifier.STATIC);
        boolean isWrittenOut = tree.getInitializer() != null && its.getModifiers().contains(Modifier.FINAL)
                && tree.getInitializer().getKind() == Tree.Kind.NEW_ARRAY;
        if (isStaticField && its.getConstantValue() == null && !isWrittenOut) {
            rule(5, its + " is static, and no constant", tree);
        }
        return super.visitVariable(tree, none);
    }

    private void dueType(TypeMirror type, Tree at) {
        TypeMirror bare = type;
        int dimensions = 0;
        while (bare.getKind() == TypeKind.ARRAY) {
            bare = ((ArrayType) bare).getComponentType();
            dimensions++;
        }
        boolean isNumber = bare.getKind().isPrimitive() && bare.getKind() != TypeKind.BOOLEAN;
        if (dimensions > 2 || dimensions == 2 && !isNumber) {
            rule(3, "an array " + type, at);
        }
        boolean isNone = bare.getKind().isPrimitive() || bare.getKind() == TypeKind.VOID;
        if (!isNone && !isTypeOfRules(bare)) {
            rule(3, "the type " + type, at);
        }
    }

    private static boolean isTypeOfRules(TypeMirror type) {
        if (type.getKind() != TypeKind.DECLARED) {
            return type.getKind() == TypeKind.TYPEVAR;
        }
        Element its = ((DeclaredType) type).asElement();
        return isOwn(its) || TYPES.contains(its.getSimpleName().toString());
    }

    // ---- rules 9, 10 and 11: loops, texts, methods

    private void loop(Tree tree, Tree condition, Runnable inside) {
        if (condition == null || condition.toString().equals("(true)") || condition.toString().equals("true")) {
            rule(9, "a loop without a bound", tree);
        }
        loops++;
        inside.run();
        loops--;
    }

    @Override
    public Void visitForLoop(ForLoopTree tree, Void none) {
        loop(tree, tree.getCondition(), () -> super.visitForLoop(tree, none));
        return null;
    }

    @Override
    public Void visitWhileLoop(WhileLoopTree tree, Void none) {
        loop(tree, tree.getCondition(), () -> super.visitWhileLoop(tree, none));
        return null;
    }

    @Override
    public Void visitDoWhileLoop(DoWhileLoopTree tree, Void none) {
        loop(tree, tree.getCondition(), () -> super.visitDoWhileLoop(tree, none));
        return null;
    }

    @Override
    public Void visitBinary(BinaryTree tree, Void none) {
        TypeMirror type = trees.getTypeMirror(getCurrentPath());
        if (tree.getKind() == Tree.Kind.PLUS && !type.getKind().isPrimitive()) {
            rule(10, "texts joined by +", tree);
        }
        return super.visitBinary(tree, none);
    }

    @Override
    public Void visitMethod(MethodTree tree, Void none) {
        inMethod = (ExecutableElement) trees.getElement(getCurrentPath());
        calls.put(inMethod, new HashSet<>());
        dueType(inMethod.getReturnType(), tree);
        long begin = unit.getLineMap().getLineNumber(positions.getStartPosition(unit, tree));
        long end = unit.getLineMap().getLineNumber(positions.getEndPosition(unit, tree));
        if (end - begin >= MOST_LINES) {
            rule(11, inMethod + " has " + (end - begin + 1) + " lines", tree);
        }
        if (inMethod.getParameters().size() > 7) {
            rule(11, inMethod + " takes " + inMethod.getParameters().size() + " parameters", tree);
        }
        super.visitMethod(tree, none);
        inMethod = null;
        return null;
    }

    // ---- rules 4, 6 and 12: calls, exceptions, objects

    @Override
    public Void visitMethodInvocation(MethodInvocationTree tree, Void none) {
        ExecutableElement called = (ExecutableElement) element(tree.getMethodSelect());
        if (isOwn(called)) {
            if (inMethod != null) {
                calls.get(inMethod).add(called);
            }
        } else if (called.getKind() != ElementKind.CONSTRUCTOR && !isInLibrary(called)) {
            rule(4, "a call of " + called.getEnclosingElement() + "." + called, tree);
        }
        return super.visitMethodInvocation(tree, none);
    }

    private static boolean isInLibrary(ExecutableElement called) {
        String of = called.getEnclosingElement().getSimpleName().toString();
        String name = called.getSimpleName().toString();
        if (FUNCTIONS.contains(of)) {
            return called.getModifiers().contains(Modifier.STATIC) && !name.endsWith("Exact")
                    && called.getParameters().stream().allMatch(given -> isWhole(given.asType()));
        }
        return name.equals("clone") || LIBRARY.getOrDefault(of, Set.of()).contains(name);
    }

    private static boolean isWhole(TypeMirror type) {
        return type.getKind() == TypeKind.INT || type.getKind() == TypeKind.LONG;
    }

    @Override
    public Void visitThrow(ThrowTree tree, Void none) {
        boolean isNew = tree.getExpression().getKind() == Tree.Kind.NEW_CLASS;
        NewClassTree made = isNew ? (NewClassTree) tree.getExpression() : null;
        boolean isWritten = made != null && made.getClassBody() == null && made.getArguments().stream()
                .allMatch(text -> text.getKind() == Tree.Kind.STRING_LITERAL);
        if (!isWritten || !EXCEPTIONS.contains(made.getIdentifier().toString())) {
            rule(6, "a throw that is not written as told", tree);
        }
        if (inMethod == null || inMethod.getKind() == ElementKind.CONSTRUCTOR) {
            rule(6, "a throw in a constructor", tree);
        }
        return null;
    }

    private void makes(Tree tree) {
        if (inMethod != null && inMethod.getKind() != ElementKind.CONSTRUCTOR) {
            makers.add(inMethod);
            if (loops > 0) {
                rule(12, "an object made in a loop that is not a constructor's", tree);
            }
        }
    }

    @Override
    public Void visitNewClass(NewClassTree tree, Void none) {
        if (tree.getClassBody() != null || !isTypeOfRules(trees.getTypeMirror(getCurrentPath()))) {
            rule(3, "an object of another class", tree);
        }
        makes(tree);
        return super.visitNewClass(tree, none);
    }

    @Override
    public Void visitNewArray(NewArrayTree tree, Void none) {
        makes(tree);
        return super.visitNewArray(tree, none);
    }

    // ---- rules 8, 11 and 12: how calls go on

    private void recursionAndDepth() {
        for (ExecutableElement method : calls.keySet()) {
            for (ExecutableElement called : calls.get(method)) {
                if (called.equals(method)) {
                    Set<Modifier> has = method.getModifiers();
                    if (!has.contains(Modifier.PRIVATE) || !has.contains(Modifier.STATIC)) {
                        broken.add("rule 8: " + method + " calls itself, and is not private and static");
                    }
                }
            }
            if (method.getModifiers().contains(Modifier.PUBLIC)) {
                int deep = depth(method, new ArrayList<>());
                if (deep > MOST_DEEP) {
                    broken.add("rule 11: calls go " + deep + " deep from " + method);
                }
            }
        }
    }

    private int depth(ExecutableElement method, List<ExecutableElement> open) {
        int deepest = 0;
        open.add(method);
        for (ExecutableElement called : calls.getOrDefault(method, Set.of())) {
            if (!open.contains(called)) {
                deepest = Math.max(deepest, depth(called, open));
            } else if (!called.equals(method)) {
                broken.add("rule 8: " + called + " comes to itself by " + method);
            }
        }
        open.remove(open.size() - 1);
        return deepest + 1;
    }

    /** What a run makes stays small, as no call of the face makes anything but a hand and a book. */
    private void makersOfObjects() {
        for (ExecutableElement face : calls.keySet()) {
            String name = face.getSimpleName().toString();
            boolean mayMake = name.equals("hand") || name.equals("book") || name.equals("<init>");
            if (face.getModifiers().contains(Modifier.PUBLIC) && !mayMake && makesSomething(face, new HashSet<>())) {
                broken.add("rule 12: " + face + " makes objects");
            }
        }
    }

    private boolean makesSomething(ExecutableElement method, Set<ExecutableElement> known) {
        if (makers.contains(method)) {
            return true;
        }
        for (ExecutableElement called : calls.getOrDefault(method, Set.of())) {
            if (known.add(called) && makesSomething(called, known)) {
                return true;
            }
        }
        return false;
    }
}
