import com.sun.source.tree.AssertTree;
import com.sun.source.tree.BinaryTree;
import com.sun.source.tree.ClassTree;
import com.sun.source.tree.CompilationUnitTree;
import com.sun.source.tree.CompoundAssignmentTree;
import com.sun.source.tree.DoWhileLoopTree;
import com.sun.source.tree.ForLoopTree;
import com.sun.source.tree.ImportTree;
import com.sun.source.tree.InstanceOfTree;
import com.sun.source.tree.LambdaExpressionTree;
import com.sun.source.tree.MemberReferenceTree;
import com.sun.source.tree.MethodInvocationTree;
import com.sun.source.tree.MethodTree;
import com.sun.source.tree.NewArrayTree;
import com.sun.source.tree.NewClassTree;
import com.sun.source.tree.SynchronizedTree;
import com.sun.source.tree.ThrowTree;
import com.sun.source.tree.Tree;
import com.sun.source.tree.TryTree;
import com.sun.source.tree.TypeCastTree;
import com.sun.source.tree.VariableTree;
import com.sun.source.tree.WhileLoopTree;
import com.sun.source.util.JavacTask;
import com.sun.source.util.TreePath;
import com.sun.source.util.TreePathScanner;
import com.sun.source.util.Trees;
import java.nio.file.Files;
import java.nio.file.Path;
import java.util.ArrayList;
import java.util.HashMap;
import java.util.HashSet;
import java.util.List;
import java.util.Map;
import java.util.Set;
import javax.lang.model.element.Element;
import javax.lang.model.element.ElementKind;
import javax.lang.model.element.ExecutableElement;
import javax.lang.model.element.Modifier;
import javax.lang.model.type.ArrayType;
import javax.lang.model.type.TypeKind;
import javax.lang.model.type.TypeMirror;
import javax.tools.JavaCompiler;
import javax.tools.StandardJavaFileManager;
import javax.tools.ToolProvider;

/** The rules of LANGUAGE.md, as far as they can be read off the source as the compiler sees it. */
public final class RulesTest extends TreePathScanner<Void, Void> {
    private static final Check CHECK = new Check();
    private static final Set<String> FACE = Set.of("write", "wipe", "fault", "lay", "minute", "known", "watcher", "where", "begin",
        "over", "undo", "judge", "plan", "at", "most", "understand", "soonest", "ask", "fair", "mean", "sure", "fits", "matters",
        "night", "keep", "back", "count");
    /** Of what rule 4 lists, what the class uses: one more is added here only if the rule lists it. */
    private static final Set<String> LIBRARY = Set.of("String.toCharArray", "Math.min", "Math.max", "Integer.bitCount",
        "System.arraycopy", "Arrays.fill");
    private static final int DEEP_MOST = 8;

    private final Trees trees;
    private final CompilationUnitTree unit;
    private final Map<ExecutableElement, Set<ExecutableElement>> calls = new HashMap<>();
    private final List<String> classes = new ArrayList<>();

    private RulesTest(Trees trees, CompilationUnitTree unit) {
        this.trees = trees;
        this.unit = unit;
    }

    public static void main(String[] args) throws Exception {
        Path file = Path.of(args.length > 0 ? args[0] : ".", "src/main/java/OverAndBack.java");
        String source = Files.readString(file);
        rule("3 and 4: no sign beyond ASCII", source.chars().allMatch(c -> c <= 126));
        JavaCompiler compiler = ToolProvider.getSystemJavaCompiler();
        try (StandardJavaFileManager files = compiler.getStandardFileManager(null, null, null)) {
            JavacTask task = (JavacTask) compiler.getTask(null, files, null, List.of("-proc:none"), null, files.getJavaFileObjects(file));
            CompilationUnitTree unit = task.parse().iterator().next();
            task.analyze();
            RulesTest rules = new RulesTest(Trees.instance(task), unit);
            rules.scan(unit, null);
            rules.whole();
        }
        CHECK.end();
    }

    private static void rule(String name, boolean holds) {
        CHECK.due("rule " + name, holds ? 1 : 0, 1);
    }

    private void never(String name, Tree tree) {
        rule(name + " at line " + line(tree), false);
    }

    private long line(Tree tree) {
        return unit.getLineMap().getLineNumber(trees.getSourcePositions().getStartPosition(unit, tree));
    }

    private long lastLine(Tree tree) {
        return unit.getLineMap().getLineNumber(trees.getSourcePositions().getEndPosition(unit, tree));
    }

    private Element element() {
        return trees.getElement(getCurrentPath());
    }

    // ---- the whole file

    private void whole() {
        rule("1: no package", unit.getPackage() == null);
        for (ImportTree i : unit.getImports()) {
            rule("4: " + i, Set.of("java.util.Arrays", "java.util.ArrayList", "java.util.List", "java.util.Iterator")
                .contains(i.getQualifiedIdentifier().toString()) && !i.isStatic());
        }
        rule("1: one class of the file", unit.getTypeDecls().size() == 1);
        rule("11: some twelve classes " + classes, classes.size() <= 12);
        int deepest = 0;
        for (ExecutableElement method : calls.keySet()) {
            deepest = Math.max(deepest, depth(method, new HashSet<>()));
        }
        System.out.println("calls go " + deepest + " deep");
        rule("11: calls go eight deep at most: " + deepest, deepest <= DEEP_MOST);
    }

    private int depth(ExecutableElement method, Set<ExecutableElement> open) {
        if (!open.add(method)) {
            rule("8: no recursion by " + method, false);
            return 0;
        }
        int deepest = 0;
        for (ExecutableElement called : calls.getOrDefault(method, Set.of())) {
            deepest = Math.max(deepest, depth(called, open));
        }
        open.remove(method);
        return deepest + 1;
    }

    // ---- classes, fields, methods

    @Override
    public Void visitClass(ClassTree c, Void v) {
        Element e = element();
        String name = c.getSimpleName().toString();
        classes.add(name);
        Set<Modifier> modifiers = e.getModifiers();
        boolean isOuter = name.equals("OverAndBack");
        boolean isInside = modifiers.contains(Modifier.STATIC) && !modifiers.contains(Modifier.PUBLIC) && !modifiers.contains(Modifier.PROTECTED);
        rule("1 and 2: class " + name + " " + modifiers, isOuter ? modifiers.equals(Set.of(Modifier.PUBLIC, Modifier.FINAL)) : isInside);
        Tree.Kind around = getCurrentPath().getParentPath().getLeaf().getKind();
        rule("2: " + name + " is not local", around == Tree.Kind.COMPILATION_UNIT || around == Tree.Kind.CLASS);
        rule("12: nothing of " + name + " is overridden", modifiers.contains(Modifier.FINAL) && c.getExtendsClause() == null);
        long fields = c.getMembers().stream().filter(m -> m instanceof VariableTree)
            .filter(m -> !((VariableTree) m).getModifiers().getFlags().contains(Modifier.STATIC)).count();
        rule("11: some twenty fields of " + name, fields <= 20);
        rule("5: no initialiser block in " + name, c.getMembers().stream().noneMatch(m -> m.getKind() == Tree.Kind.BLOCK));
        return super.visitClass(c, v);
    }

    @Override
    public Void visitVariable(VariableTree variable, Void v) {
        Element e = element();
        rule("3: type of " + variable.getName(), isGoodType(e.asType()));
        boolean isField = e.getKind() == ElementKind.FIELD;
        if (isField && e.getModifiers().contains(Modifier.STATIC)) {
            boolean isConstant = Set.of("int", "long", "boolean", "char", "java.lang.String").contains(e.asType().toString());
            rule("5: " + variable.getName() + " is a constant", e.getModifiers().contains(Modifier.FINAL) && isConstant);
        }
        if (isField && e.getEnclosingElement().getSimpleName().contentEquals("OverAndBack")) {
            boolean isFace = Set.of("BAD", "NO", "FULL", "NONE").contains(variable.getName().toString());
            rule("1: " + variable.getName() + " is private", isFace || e.getModifiers().contains(Modifier.PRIVATE));
        }
        return super.visitVariable(variable, v);
    }

    @Override
    public Void visitMethod(MethodTree method, Void v) {
        ExecutableElement e = (ExecutableElement) element();
        String name = method.getName().toString();
        calls.computeIfAbsent(e, k -> new HashSet<>());
        boolean isPublic = e.getModifiers().contains(Modifier.PUBLIC);
        boolean ofTheFace = e.getEnclosingElement().getSimpleName().contentEquals("OverAndBack");
        rule("1: " + name + " bears the name of a public one", isPublic || !FACE.contains(name));
        if (ofTheFace) {
            rule("1: " + name + " is private", isPublic == (FACE.contains(name) || name.equals("<init>"))
                && (isPublic || e.getModifiers().contains(Modifier.PRIVATE)));
        }
        rule("3: " + name + " answers a good type", e.getReturnType().getKind() == TypeKind.VOID || isGoodType(e.getReturnType()));
        rule("11: " + name + " has seven parameters at most", e.getParameters().size() <= 7);
        // A constructor that the compiler has written has no lines of its own.
        rule("11: " + name + " is short", line(method) < 0 || lastLine(method) - line(method) < 60);
        rule("6: " + name + " throws nothing", method.getThrows().isEmpty());
        return super.visitMethod(method, v);
    }

    private static boolean isGoodType(TypeMirror type) {
        if (type.getKind() == TypeKind.ARRAY) {
            TypeMirror inner = ((ArrayType) type).getComponentType();
            return inner.getKind() != TypeKind.ARRAY && isGoodType(inner);
        }
        boolean isOwn = type.toString().startsWith("OverAndBack.");
        return isOwn || Set.of("int", "long", "char", "boolean", "java.lang.String").contains(type.toString());
    }

    // ---- what is called and made

    @Override
    public Void visitMethodInvocation(MethodInvocationTree call, Void v) {
        Element e = element();
        if (e instanceof ExecutableElement called && !called.getSimpleName().contentEquals("<init>")) {
            String name = called.getEnclosingElement().getSimpleName() + "." + called.getSimpleName();
            if (isOwn(called)) {
                noteCall(called);
            } else {
                rule("4 and 13: the library's " + name + " at line " + line(call), LIBRARY.contains(name));
                rule("12: letters are made once, at line " + line(call), !name.equals("String.toCharArray") || isMadeOnce());
            }
        }
        return super.visitMethodInvocation(call, v);
    }

    @Override
    public Void visitNewClass(NewClassTree made, Void v) {
        if (element() instanceof ExecutableElement constructor && isOwn(constructor)) {
            noteCall(constructor);
        } else {
            never("4: an object of the library", made);
        }
        rule("2: no anonymous class at line " + line(made), made.getClassBody() == null);
        rule("12: made once, at line " + line(made), isMadeOnce());
        return super.visitNewClass(made, v);
    }

    @Override
    public Void visitNewArray(NewArrayTree made, Void v) {
        rule("12: made once, at line " + line(made), isMadeOnce());
        return super.visitNewArray(made, v);
    }

    private static boolean isOwn(Element e) {
        return e.getEnclosingElement().toString().startsWith("OverAndBack");
    }

    /** Objects are made with the object alone: in fields and constructors, by no call. */
    private boolean isMadeOnce() {
        ExecutableElement method = methodAround();
        return method == null || method.getSimpleName().contentEquals("<init>");
    }

    private ExecutableElement methodAround() {
        for (TreePath p = getCurrentPath(); p != null; p = p.getParentPath()) {
            if (p.getLeaf() instanceof MethodTree) {
                return (ExecutableElement) trees.getElement(p);
            }
        }
        return null;
    }

    private void noteCall(ExecutableElement called) {
        ExecutableElement from = methodAround();
        if (from != null) {
            calls.computeIfAbsent(from, k -> new HashSet<>()).add(called);
        }
    }

    // ---- what is not written

    @Override
    public Void visitThrow(ThrowTree t, Void v) {
        never("6: throw", t);
        return super.visitThrow(t, v);
    }

    @Override
    public Void visitTry(TryTree t, Void v) {
        never("6: try", t);
        return super.visitTry(t, v);
    }

    @Override
    public Void visitSynchronized(SynchronizedTree t, Void v) {
        never("6: synchronized", t);
        return super.visitSynchronized(t, v);
    }

    @Override
    public Void visitAssert(AssertTree t, Void v) {
        never("6: assert", t);
        return super.visitAssert(t, v);
    }

    @Override
    public Void visitLambdaExpression(LambdaExpressionTree t, Void v) {
        never("2: lambda", t);
        return super.visitLambdaExpression(t, v);
    }

    @Override
    public Void visitMemberReference(MemberReferenceTree t, Void v) {
        never("2: method reference", t);
        return super.visitMemberReference(t, v);
    }

    @Override
    public Void visitInstanceOf(InstanceOfTree t, Void v) {
        never("6: instanceof, which this class does not need", t);
        return super.visitInstanceOf(t, v);
    }

    @Override
    public Void visitTypeCast(TypeCastTree cast, Void v) {
        rule("6: a cast among numbers alone, line " + line(cast), Set.of("int", "long", "char").contains(cast.getType().toString()));
        return super.visitTypeCast(cast, v);
    }

    @Override
    public Void visitBinary(BinaryTree b, Void v) {
        for (Tree side : new Tree[] {b.getLeftOperand(), b.getRightOperand()}) {
            TypeMirror type = trees.getTypeMirror(new TreePath(getCurrentPath(), side));
            rule("6 and 10: numbers and truths alone, line " + line(b), type.getKind().isPrimitive());
        }
        if (b.getKind() == Tree.Kind.DIVIDE || b.getKind() == Tree.Kind.REMAINDER) {
            String by = b.getRightOperand().toString();
            // A constant, or one of the two that are looked at: the loop's own bound, and what is 1 at the least.
            rule("7: the divisor " + by + " at line " + line(b), by.matches("\\d+|[A-Z_.a-z]*[A-Z]{2,}") || Set.of("less", "common").contains(by));
        }
        return super.visitBinary(b, v);
    }

    @Override
    public Void visitCompoundAssignment(CompoundAssignmentTree a, Void v) {
        boolean divides = a.getKind() == Tree.Kind.DIVIDE_ASSIGNMENT || a.getKind() == Tree.Kind.REMAINDER_ASSIGNMENT;
        rule("7: no dividing into itself, line " + line(a), !divides);
        return super.visitCompoundAssignment(a, v);
    }

    // ---- loops

    @Override
    public Void visitForLoop(ForLoopTree loop, Void v) {
        String condition = loop.getCondition() == null ? "" : loop.getCondition().toString();
        rule("9: a bound at line " + line(loop), condition.matches(".*[<>]=? .*") && !loop.getUpdate().isEmpty());
        return super.visitForLoop(loop, v);
    }

    @Override
    public Void visitWhileLoop(WhileLoopTree loop, Void v) {
        rule("9: a bound at line " + line(loop), loop.getCondition().toString().contains(" < "));
        return super.visitWhileLoop(loop, v);
    }

    @Override
    public Void visitDoWhileLoop(DoWhileLoopTree loop, Void v) {
        never("9: do, which this class does not need", loop);
        return super.visitDoWhileLoop(loop, v);
    }
}
