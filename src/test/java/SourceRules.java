import com.sun.source.tree.AnnotationTree;
import com.sun.source.tree.AssertTree;
import com.sun.source.tree.BinaryTree;
import com.sun.source.tree.ClassTree;
import com.sun.source.tree.CompilationUnitTree;
import com.sun.source.tree.ExpressionTree;
import com.sun.source.tree.LambdaExpressionTree;
import com.sun.source.tree.LineMap;
import com.sun.source.tree.LiteralTree;
import com.sun.source.tree.MemberReferenceTree;
import com.sun.source.tree.MethodInvocationTree;
import com.sun.source.tree.MethodTree;
import com.sun.source.tree.NewClassTree;
import com.sun.source.tree.SynchronizedTree;
import com.sun.source.tree.ThrowTree;
import com.sun.source.tree.Tree;
import com.sun.source.tree.TryTree;
import com.sun.source.tree.TypeCastTree;
import com.sun.source.tree.VariableTree;
import com.sun.source.util.JavacTask;
import com.sun.source.util.SourcePositions;
import com.sun.source.util.TreePath;
import com.sun.source.util.TreePathScanner;
import com.sun.source.util.Trees;
import java.io.IOException;
import java.nio.file.Path;
import java.util.LinkedHashMap;
import java.util.LinkedHashSet;
import java.util.List;
import java.util.Map;
import java.util.Set;
import javax.lang.model.element.Element;
import javax.lang.model.element.ElementKind;
import javax.lang.model.element.ExecutableElement;
import javax.lang.model.element.Modifier;
import javax.lang.model.type.ArrayType;
import javax.lang.model.type.TypeKind;
import javax.lang.model.type.TypeMirror;
import javax.tools.JavaCompiler;
import javax.tools.StandardJavaFileManager;
import javax.tools.ToolProvider;

/** The rules of LANGUAGE.md that are seen from the tree that javac makes of the class, its types and calls known. */
final class SourceRules extends TreePathScanner<Void, Void> {
    private static final String CLASS = "Marionette";
    private static final Set<String> LIBRARY = Set.of("java.lang.Math.max", "java.lang.Math.min");
    private static final Set<String> EXCEPTIONS = Set.of("java.lang.IllegalStateException",
        "java.lang.IllegalArgumentException", "java.lang.IndexOutOfBoundsException");
    /** A value asks for the values of its parents: the one recursion that there is. */
    private static final Set<String> RECURSION = Set.of("Marionette.Cache.valueAt", "Marionette.Cache.newValueAt");

    private final Check check;
    private final Trees trees;
    private final CompilationUnitTree unit;
    private final Map<String, Set<String>> calls = new LinkedHashMap<>();
    private String inMethod = "";
    private int classes;

    private SourceRules(Check check, Trees trees, CompilationUnitTree unit) {
        this.check = check;
        this.trees = trees;
        this.unit = unit;
    }

    static void look(Check check, Path source) throws IOException {
        JavaCompiler compiler = ToolProvider.getSystemJavaCompiler();
        try (StandardJavaFileManager files = compiler.getStandardFileManager(null, null, null)) {
            JavacTask task = (JavacTask) compiler.getTask(null, files, null, List.of("-proc:none"), null,
                files.getJavaFileObjects(source));
            CompilationUnitTree unit = task.parse().iterator().next();
            task.analyze();
            SourceRules rules = new SourceRules(check, Trees.instance(task), unit);
            rules.scan(unit, null);
            rules.ofTheWhole();
        }
    }

    private void ofTheWhole() {
        check.compare("rule 1: classes of the file", "1", Integer.toString(unit.getTypeDecls().size()));
        check.yes("rule 11: at most twelve classes, not " + classes, classes <= 12);
        check.yes("calls are known", calls.size() > 100);
        for (String method : calls.keySet()) {
            int depth = depth(method, new LinkedHashSet<>());
            check.yes("rule 11: " + method + " calls at most eight deep, not " + depth, depth <= 8);
            if (reaches(method, method, new LinkedHashSet<>())) {
                check.yes("rule 8: " + method + " is known to come back to itself", RECURSION.contains(method));
            }
        }
    }

    /** How many calls stand open at most, this one counted; a recursion counts once for each method that it goes through. */
    private int depth(String method, Set<String> open) {
        int deepest = 0;
        open.add(method);
        for (String called : calls.getOrDefault(method, Set.of())) {
            if (!open.contains(called)) {
                deepest = Math.max(deepest, depth(called, open));
            }
        }
        open.remove(method);
        return 1 + deepest;
    }

    private boolean reaches(String from, String to, Set<String> seen) {
        for (String called : calls.getOrDefault(from, Set.of())) {
            if (called.equals(to) || seen.add(called) && reaches(called, to, seen)) {
                return true;
            }
        }
        return false;
    }

    private String at(Tree tree) {
        SourcePositions positions = trees.getSourcePositions();
        return " (line " + lineOf(positions.getStartPosition(unit, tree)) + ")";
    }

    private long lineOf(long position) {
        LineMap lines = unit.getLineMap();
        return position < 0 ? 0 : lines.getLineNumber(position);
    }

    private void forbidden(String rule, Tree tree) {
        check.compare(rule + at(tree), "none", tree.toString());
    }

    private static String nameOf(Element element) {
        return element.getEnclosingElement() + "." + element.getSimpleName();
    }

    private boolean isInFace() {
        TreePath around = getCurrentPath().getParentPath();
        return around != null && around.getLeaf() instanceof ClassTree c && c.getSimpleName().contentEquals(CLASS);
    }

    @Override
    public Void visitClass(ClassTree tree, Void nothing) {
        classes++;
        Set<Modifier> modifiers = tree.getModifiers().getFlags();
        if (tree.getSimpleName().contentEquals(CLASS)) {
            check.yes("rule 1: the class is public and final", modifiers.equals(Set.of(Modifier.PUBLIC, Modifier.FINAL)));
        } else {
            check.yes("rule 2: " + tree.getSimpleName() + " is static and not open",
                modifiers.contains(Modifier.STATIC) && modifiers.contains(Modifier.PRIVATE));
        }
        long fields = tree.getMembers().stream()
            .filter(m -> m instanceof VariableTree v && !v.getModifiers().getFlags().contains(Modifier.STATIC)).count();
        check.yes("rule 11: " + tree.getSimpleName() + " has at most twenty fields, not " + fields, fields <= 20);
        return super.visitClass(tree, nothing);
    }

    @Override
    public Void visitMethod(MethodTree tree, Void nothing) {
        ExecutableElement method = (ExecutableElement) trees.getElement(getCurrentPath());
        inMethod = nameOf(method);
        calls.computeIfAbsent(inMethod, m -> new LinkedHashSet<>());
        boolean own = trees.getSourcePositions().getEndPosition(unit, tree) >= 0;
        long lines = lineOf(trees.getSourcePositions().getEndPosition(unit, tree))
            - lineOf(trees.getSourcePositions().getStartPosition(unit, tree)) + 1;
        check.yes("rule 11: " + inMethod + " has at most sixty lines, not " + lines, !own || lines <= 60);
        check.yes("rule 11: " + inMethod + " takes at most seven", tree.getParameters().size() <= 7);
        check.yes("rule 3: what " + inMethod + " answers", method.getReturnType().getKind() == TypeKind.VOID
            || isAllowed(method.getReturnType()));
        if (isInFace()) {
            Set<Modifier> modifiers = tree.getModifiers().getFlags();
            check.yes("rule 1: " + inMethod + " is of the face or private",
                modifiers.contains(Modifier.PUBLIC) || modifiers.contains(Modifier.PRIVATE));
        }
        super.visitMethod(tree, nothing);
        inMethod = "";
        return null;
    }

    @Override
    public Void visitVariable(VariableTree tree, Void nothing) {
        Element variable = trees.getElement(getCurrentPath());
        check.yes("rule 3: the type of " + tree + at(tree), isAllowed(variable.asType()));
        if (variable.getKind() == ElementKind.FIELD && variable.getModifiers().contains(Modifier.STATIC)) {
            check.yes("rule 5: " + tree + " is a constant number", variable.getModifiers().contains(Modifier.FINAL)
                && variable.asType().getKind() == TypeKind.INT);
        }
        if (isInFace()) {
            check.yes("rule 1: " + tree + " is private", variable.getModifiers().contains(Modifier.PRIVATE));
        }
        return super.visitVariable(tree, nothing);
    }

    private static boolean isNumber(TypeMirror type) {
        return type.getKind() == TypeKind.INT;
    }

    private static boolean isOwn(TypeMirror type) {
        return type.getKind() == TypeKind.DECLARED && type.toString().startsWith(CLASS + ".");
    }

    private static boolean isAllowed(TypeMirror type) {
        if (type.getKind() != TypeKind.ARRAY) {
            return isNumber(type) || type.getKind() == TypeKind.BOOLEAN || isOwn(type);
        }
        TypeMirror part = ((ArrayType) type).getComponentType();
        if (part.getKind() == TypeKind.ARRAY) {
            return isNumber(((ArrayType) part).getComponentType());
        }
        return isAllowed(part);
    }

    @Override
    public Void visitMethodInvocation(MethodInvocationTree tree, Void nothing) {
        Element called = trees.getElement(getCurrentPath());
        // javac adds the call of Object's constructor to each constructor.
        if (called.getKind() != ElementKind.CONSTRUCTOR) {
            String name = nameOf(called);
            check.yes("rule 4: " + name + at(tree), name.startsWith(CLASS) || LIBRARY.contains(name));
            calls.computeIfAbsent(inMethod, m -> new LinkedHashSet<>()).add(name);
        }
        return super.visitMethodInvocation(tree, nothing);
    }

    @Override
    public Void visitNewClass(NewClassTree tree, Void nothing) {
        TypeMirror made = trees.getTypeMirror(getCurrentPath());
        boolean thrown = getCurrentPath().getParentPath().getLeaf().getKind() == Tree.Kind.THROW;
        check.yes("rule 4: " + tree + at(tree), isOwn(made) || thrown && EXCEPTIONS.contains(made.toString()));
        check.yes("rule 2: no class without a name" + at(tree), tree.getClassBody() == null);
        if (isOwn(made)) {
            calls.computeIfAbsent(inMethod, m -> new LinkedHashSet<>()).add(made + ".<init>");
        }
        return super.visitNewClass(tree, nothing);
    }

    @Override
    public Void visitThrow(ThrowTree tree, Void nothing) {
        check.yes("rule 6: a new exception" + at(tree), tree.getExpression() instanceof NewClassTree made
            && made.getArguments().stream().allMatch(LiteralTree.class::isInstance));
        check.no("rule 6: a throw in a constructor" + at(tree), inMethod.endsWith(".<init>"));
        return super.visitThrow(tree, nothing);
    }

    @Override
    public Void visitBinary(BinaryTree tree, Void nothing) {
        boolean division = tree.getKind() == Tree.Kind.DIVIDE || tree.getKind() == Tree.Kind.REMAINDER;
        if (division) {
            check.yes("rule 7: the divisor of " + tree + at(tree), isTested(tree.getRightOperand()));
        }
        TypeMirror type = trees.getTypeMirror(getCurrentPath());
        check.yes("rule 10: " + tree + at(tree), isNumber(type) || type.getKind() == TypeKind.BOOLEAN);
        return super.visitBinary(tree, nothing);
    }

    /** A constant, at least 1 by Math.max, or one of the two divisors that an if ahead of them looks at. */
    private static boolean isTested(ExpressionTree divisor) {
        String text = divisor.toString();
        return text.matches("[1-9][0-9]*|[A-Z_]+|Math\\.max\\(1, .*\\)") || Set.of("(behind - ahead)", "size", "divisor").contains(text);
    }

    @Override
    public Void visitTry(TryTree tree, Void nothing) {
        forbidden("rule 6: the class needs no try", tree);
        return null;
    }

    @Override
    public Void visitTypeCast(TypeCastTree tree, Void nothing) {
        forbidden("rule 6: the class needs no cast", tree);
        return null;
    }

    @Override
    public Void visitLambdaExpression(LambdaExpressionTree tree, Void nothing) {
        forbidden("rule 2: no lambda", tree);
        return null;
    }

    @Override
    public Void visitMemberReference(MemberReferenceTree tree, Void nothing) {
        forbidden("rule 2: no method reference", tree);
        return null;
    }

    @Override
    public Void visitSynchronized(SynchronizedTree tree, Void nothing) {
        forbidden("rule 6: no synchronized", tree);
        return null;
    }

    @Override
    public Void visitAssert(AssertTree tree, Void nothing) {
        forbidden("rule 6: no assert", tree);
        return null;
    }

    @Override
    public Void visitAnnotation(AnnotationTree tree, Void nothing) {
        forbidden("rule 4: no annotation", tree);
        return null;
    }
}
