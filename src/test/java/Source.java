import com.sun.source.tree.ArrayAccessTree;
import com.sun.source.tree.AssertTree;
import com.sun.source.tree.AssignmentTree;
import com.sun.source.tree.BinaryTree;
import com.sun.source.tree.ClassTree;
import com.sun.source.tree.CompilationUnitTree;
import com.sun.source.tree.CompoundAssignmentTree;
import com.sun.source.tree.LambdaExpressionTree;
import com.sun.source.tree.MemberReferenceTree;
import com.sun.source.tree.MethodInvocationTree;
import com.sun.source.tree.MethodTree;
import com.sun.source.tree.NewArrayTree;
import com.sun.source.tree.NewClassTree;
import com.sun.source.tree.SynchronizedTree;
import com.sun.source.tree.ThrowTree;
import com.sun.source.tree.Tree;
import com.sun.source.tree.TryTree;
import com.sun.source.tree.TypeCastTree;
import com.sun.source.tree.UnaryTree;
import com.sun.source.tree.VariableTree;
import com.sun.source.util.JavacTask;
import com.sun.source.util.TreePath;
import com.sun.source.util.TreePathScanner;
import com.sun.source.util.Trees;
import java.io.IOException;
import java.nio.file.Path;
import java.util.ArrayList;
import java.util.HashMap;
import java.util.HashSet;
import java.util.LinkedHashMap;
import java.util.List;
import java.util.Map;
import java.util.Set;
import javax.lang.model.element.Element;
import javax.lang.model.element.ElementKind;
import javax.lang.model.element.ExecutableElement;
import javax.lang.model.element.Modifier;
import javax.lang.model.type.ArrayType;
import javax.lang.model.type.DeclaredType;
import javax.lang.model.type.TypeKind;
import javax.lang.model.type.TypeMirror;
import javax.tools.JavaCompiler;
import javax.tools.StandardJavaFileManager;
import javax.tools.ToolProvider;

/** A class as the compiler reads it: who calls whom, how much there is of it, and what LANGUAGE.md rules out. */
final class Source extends TreePathScanner<Void, Void> {
    private static final Set<String> LIBRARY = Set.of("String.length", "String.charAt", "String.isEmpty", "String.equals",
        "String.indexOf", "String.substring", "String.toCharArray", "StringBuilder.append", "StringBuilder.charAt",
        "StringBuilder.setCharAt", "StringBuilder.setLength", "StringBuilder.deleteCharAt", "StringBuilder.reverse",
        "StringBuilder.length", "StringBuilder.toString", "Math.min", "Math.max", "Math.abs", "Math.floorDiv", "Math.floorMod",
        "Integer.compare", "Integer.bitCount", "Long.compare", "Long.bitCount", "System.arraycopy", "Arrays.copyOf",
        "Arrays.copyOfRange", "Arrays.fill");
    private static final int MOST_DEEP = 100;

    final List<ClassTree> classes = new ArrayList<>();
    final Map<String, Integer> fieldsOf = new LinkedHashMap<>();
    final Map<String, Integer> linesOf = new LinkedHashMap<>();
    final Map<String, Integer> parametersOf = new LinkedHashMap<>();
    /** What a rule rules out, each with the number of the rule and its line. */
    final List<String> faults = new ArrayList<>();
    private final Map<ExecutableElement, Set<ExecutableElement>> calls = new LinkedHashMap<>();
    private final Map<ExecutableElement, Integer> depths = new HashMap<>();
    private final Trees trees;
    private final CompilationUnitTree unit;

    private Source(JavacTask task) throws IOException {
        trees = Trees.instance(task);
        unit = task.parse().iterator().next();
        task.analyze();
        scan(unit, null);
    }

    static Source of(String file) throws IOException {
        JavaCompiler compiler = ToolProvider.getSystemJavaCompiler();
        StandardJavaFileManager files = compiler.getStandardFileManager(null, null, null);
        return new Source((JavacTask) compiler.getTask(null, files, null, List.of("-proc:none"), null,
            files.getJavaFileObjects(Path.of(file))));
    }

    /** The names of the methods that come back to themselves, by others or alone. */
    Set<String> recursive() {
        Set<String> names = new HashSet<>();
        for (ExecutableElement method : calls.keySet()) {
            if (reach(method).contains(method)) {
                names.add(name(method));
            }
        }
        return names;
    }

    /** How many calls can stand open at once, those of a recursion counted as one. */
    int depth() {
        int most = 0;
        for (ExecutableElement method : calls.keySet()) {
            most = Math.max(most, depth(method, 0));
        }
        return most;
    }

    private int depth(ExecutableElement method, int open) {
        if (open > MOST_DEEP) {
            throw new IllegalStateException("no end of " + name(method));
        }
        if (!depths.containsKey(method)) {
            Set<ExecutableElement> circle = new HashSet<>(Set.of(method));
            for (ExecutableElement other : reach(method)) {
                if (reach(other).contains(method)) {
                    circle.add(other);
                }
            }
            int most = 0;
            for (ExecutableElement member : circle) {
                for (ExecutableElement called : calls.getOrDefault(member, Set.of())) {
                    most = Math.max(most, circle.contains(called) ? 0 : depth(called, open + 1));
                }
            }
            depths.put(method, most + 1);
        }
        return depths.get(method);
    }

    private Set<ExecutableElement> reach(ExecutableElement from) {
        Set<ExecutableElement> reached = new HashSet<>();
        List<ExecutableElement> next = new ArrayList<>(calls.getOrDefault(from, Set.of()));
        while (!next.isEmpty()) {
            ExecutableElement method = next.remove(next.size() - 1);
            if (reached.add(method)) {
                next.addAll(calls.getOrDefault(method, Set.of()));
            }
        }
        return reached;
    }

    private static String name(Element member) {
        return member.getEnclosingElement().getSimpleName() + "." + member.getSimpleName();
    }

    private long line(long position) {
        return unit.getLineMap().getLineNumber(position);
    }

    private long start(Tree tree) {
        return line(trees.getSourcePositions().getStartPosition(unit, tree));
    }

    private void fault(int rule, Tree tree, String what) {
        faults.add("rule " + rule + ", line " + start(tree) + ": " + what);
    }

    private Element element(Tree tree) {
        return trees.getElement(new TreePath(getCurrentPath(), tree));
    }

    private TypeMirror type(Tree tree) {
        return trees.getTypeMirror(new TreePath(getCurrentPath(), tree));
    }

    private ExecutableElement enclosing() {
        for (TreePath path = getCurrentPath(); path != null; path = path.getParentPath()) {
            if (path.getLeaf() instanceof MethodTree) {
                return (ExecutableElement) trees.getElement(path);
            }
        }
        return null;
    }

    private boolean isOwn(Element element) {
        return trees.getTree(element) != null;
    }

    @Override
    public Void visitClass(ClassTree tree, Void none) {
        classes.add(tree);
        Tree around = getCurrentPath().getParentPath().getLeaf();
        boolean outer = around == unit;
        Set<Modifier> modifiers = tree.getModifiers().getFlags();
        if (!outer && !(around instanceof ClassTree)) {
            fault(2, tree, "a local class");
        } else if (outer && !modifiers.equals(Set.of(Modifier.PUBLIC, Modifier.FINAL))) {
            fault(1, tree, "the class is not public and final alone");
        } else if (!outer && (!modifiers.contains(Modifier.STATIC) || modifiers.contains(Modifier.PUBLIC))) {
            fault(1, tree, "a class inside that is not static, or is public");
        }
        return super.visitClass(tree, none);
    }

    @Override
    public Void visitMethod(MethodTree tree, Void none) {
        ExecutableElement method = (ExecutableElement) trees.getElement(getCurrentPath());
        calls.putIfAbsent(method, new HashSet<>());
        parametersOf.merge(name(method), tree.getParameters().size(), Math::max);
        long end = line(trees.getSourcePositions().getEndPosition(unit, tree));
        linesOf.merge(name(method), (int) (end - start(tree) + 1), Math::max);
        if (tree.getReturnType() != null) {
            holdType(tree, method.getReturnType());
        }
        return super.visitMethod(tree, none);
    }

    @Override
    public Void visitVariable(VariableTree tree, Void none) {
        Element variable = trees.getElement(getCurrentPath());
        holdType(tree, variable.asType());
        if (variable.getKind() == ElementKind.FIELD) {
            if (variable.getModifiers().contains(Modifier.STATIC)) {
                holdConstant(tree, variable);
            } else {
                fieldsOf.merge(variable.getEnclosingElement().getSimpleName().toString(), 1, Integer::sum);
            }
        }
        return super.visitVariable(tree, none);
    }

    private void holdConstant(VariableTree tree, Element constant) {
        TypeMirror type = constant.asType();
        boolean row = type.getKind() == TypeKind.ARRAY && tree.getInitializer() instanceof NewArrayTree
            && ((NewArrayTree) tree.getInitializer()).getInitializers() != null
            && ((ArrayType) type).getComponentType().getKind().isPrimitive();
        boolean single = type.getKind().isPrimitive() || type.toString().equals("java.lang.String");
        if (!constant.getModifiers().contains(Modifier.FINAL) || !(row || single)) {
            fault(5, tree, "a static field that is no constant");
        }
    }

    /** Rule 3: numbers, Strings, own classes, arrays of these of one dimension, of two of numbers. */
    private void holdType(Tree tree, TypeMirror type) {
        TypeMirror at = type;
        int dimensions = 0;
        while (at.getKind() == TypeKind.ARRAY) {
            at = ((ArrayType) at).getComponentType();
            dimensions++;
        }
        boolean number = at.getKind().isPrimitive() || at.getKind() == TypeKind.VOID;
        boolean own = at.getKind() == TypeKind.DECLARED && isOwn(((DeclaredType) at).asElement());
        boolean text = at.toString().equals("java.lang.String") || at.toString().equals("java.lang.StringBuilder");
        if (!(number || own || text) || dimensions > (number ? 2 : 1)) {
            fault(3, tree, "of type " + type);
        }
    }

    @Override
    public Void visitMethodInvocation(MethodInvocationTree tree, Void none) {
        Element called = element(tree.getMethodSelect());
        if (called.getKind() == ElementKind.METHOD) {
            ExecutableElement caller = enclosing();
            if (caller == null) {
                fault(12, tree, "a call of no method");
            } else {
                calls.computeIfAbsent(caller, key -> new HashSet<>()).add((ExecutableElement) called);
            }
            if (!isOwn(called) && !LIBRARY.contains(name(called))) {
                fault(4, tree, "the library's " + name(called));
            }
        }
        return super.visitMethodInvocation(tree, none);
    }

    @Override
    public Void visitNewClass(NewClassTree tree, Void none) {
        if (tree.getClassBody() != null) {
            fault(2, tree, "an anonymous class");
        }
        Element made = element(tree);
        if (!isOwn(made.getEnclosingElement())) {
            fault(4, tree, "a new " + made.getEnclosingElement());
        } else if (enclosing() != null) {
            calls.computeIfAbsent(enclosing(), key -> new HashSet<>()).add((ExecutableElement) made);
        }
        holdMaking(tree);
        return super.visitNewClass(tree, none);
    }

    @Override
    public Void visitNewArray(NewArrayTree tree, Void none) {
        holdMaking(tree);
        return super.visitNewArray(tree, none);
    }

    /** All that is made is made by constructors, so that no call makes the room smaller. */
    private void holdMaking(Tree tree) {
        ExecutableElement maker = enclosing();
        if (maker != null && maker.getKind() != ElementKind.CONSTRUCTOR) {
            fault(12, tree, "made by " + name(maker));
        }
    }

    @Override
    public Void visitBinary(BinaryTree tree, Void none) {
        TypeMirror left = type(tree.getLeftOperand());
        TypeMirror right = type(tree.getRightOperand());
        boolean texts = left.toString().equals("java.lang.String") || right.toString().equals("java.lang.String");
        if (tree.getKind() == Tree.Kind.PLUS && texts) {
            fault(10, tree, "texts joined by +");
        }
        boolean compares = tree.getKind() == Tree.Kind.EQUAL_TO || tree.getKind() == Tree.Kind.NOT_EQUAL_TO;
        if (compares && texts) {
            fault(6, tree, "texts compared by == or !=");
        }
        return super.visitBinary(tree, none);
    }

    @Override
    public Void visitCompoundAssignment(CompoundAssignmentTree tree, Void none) {
        if (type(tree.getVariable()).toString().equals("java.lang.String")) {
            fault(10, tree, "texts joined by +=");
        }
        holdChange(tree.getVariable());
        return super.visitCompoundAssignment(tree, none);
    }

    @Override
    public Void visitAssignment(AssignmentTree tree, Void none) {
        holdChange(tree.getVariable());
        return super.visitAssignment(tree, none);
    }

    @Override
    public Void visitUnary(UnaryTree tree, Void none) {
        switch (tree.getKind()) {
            case PREFIX_INCREMENT:
            case PREFIX_DECREMENT:
            case POSTFIX_INCREMENT:
            case POSTFIX_DECREMENT:
                holdChange(tree.getExpression());
                break;
            default:
                break;
        }
        return super.visitUnary(tree, none);
    }

    /** Rule 5: an array that is a constant is never changed. */
    private void holdChange(Tree changed) {
        if (changed instanceof ArrayAccessTree) {
            TreePath path = new TreePath(new TreePath(getCurrentPath(), changed), ((ArrayAccessTree) changed).getExpression());
            Element row = trees.getElement(path);
            if (row != null && row.getModifiers().contains(Modifier.STATIC)) {
                fault(5, changed, "a constant's element changed");
            }
        }
    }

    @Override
    public Void visitTypeCast(TypeCastTree tree, Void none) {
        if (!type(tree.getType()).getKind().isPrimitive()) {
            fault(6, tree, "a cast of an object");
        }
        return super.visitTypeCast(tree, none);
    }

    @Override
    public Void visitLambdaExpression(LambdaExpressionTree tree, Void none) {
        fault(2, tree, "a lambda");
        return super.visitLambdaExpression(tree, none);
    }

    @Override
    public Void visitMemberReference(MemberReferenceTree tree, Void none) {
        fault(2, tree, "a method reference");
        return super.visitMemberReference(tree, none);
    }

    @Override
    public Void visitThrow(ThrowTree tree, Void none) {
        fault(6, tree, "throw");
        return super.visitThrow(tree, none);
    }

    @Override
    public Void visitTry(TryTree tree, Void none) {
        fault(6, tree, "try");
        return super.visitTry(tree, none);
    }

    @Override
    public Void visitSynchronized(SynchronizedTree tree, Void none) {
        fault(6, tree, "synchronized");
        return super.visitSynchronized(tree, none);
    }

    @Override
    public Void visitAssert(AssertTree tree, Void none) {
        fault(6, tree, "assert");
        return super.visitAssert(tree, none);
    }
}
