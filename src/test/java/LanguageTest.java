import com.sun.source.tree.AssignmentTree;
import com.sun.source.tree.BinaryTree;
import com.sun.source.tree.ClassTree;
import com.sun.source.tree.CompilationUnitTree;
import com.sun.source.tree.CompoundAssignmentTree;
import com.sun.source.tree.ExpressionTree;
import com.sun.source.tree.ForLoopTree;
import com.sun.source.tree.IdentifierTree;
import com.sun.source.tree.LiteralTree;
import com.sun.source.tree.MemberSelectTree;
import com.sun.source.tree.MethodInvocationTree;
import com.sun.source.tree.MethodTree;
import com.sun.source.tree.NewArrayTree;
import com.sun.source.tree.NewClassTree;
import com.sun.source.tree.Tree;
import com.sun.source.tree.TypeCastTree;
import com.sun.source.tree.UnaryTree;
import com.sun.source.tree.VariableTree;
import com.sun.source.tree.WhileLoopTree;
import com.sun.source.util.JavacTask;
import com.sun.source.util.SourcePositions;
import com.sun.source.util.TreePath;
import com.sun.source.util.TreePathScanner;
import com.sun.source.util.Trees;
import java.io.IOException;
import java.nio.file.Path;
import java.util.ArrayList;
import java.util.EnumSet;
import java.util.HashMap;
import java.util.HashSet;
import java.util.LinkedHashMap;
import java.util.LinkedHashSet;
import java.util.List;
import java.util.Map;
import java.util.Set;
import javax.lang.model.element.Element;
import javax.lang.model.element.ElementKind;
import javax.lang.model.element.ExecutableElement;
import javax.lang.model.element.Modifier;
import javax.lang.model.element.TypeElement;
import javax.lang.model.element.VariableElement;
import javax.lang.model.type.ArrayType;
import javax.lang.model.type.TypeKind;
import javax.lang.model.type.TypeMirror;
import javax.tools.JavaCompiler;
import javax.tools.StandardJavaFileManager;
import javax.tools.ToolProvider;

/**
 * The rules of LANGUAGE.md that javac's own trees can show, looked for in the class's source. Where the
 * class does without something that the rules allow in part (the library, texts, casts of objects), the
 * test refuses it as a whole, which is simpler than to tell the allowed part from the rest.
 */
final class LanguageTest extends TreePathScanner<Void, Void> {
    private static final Path SOURCE = Path.of("src/main/java/SternBrocotExplorer.java");
    private static final Set<Tree.Kind> REFUSED = EnumSet.of(Tree.Kind.THROW, Tree.Kind.TRY, Tree.Kind.CATCH,
            Tree.Kind.SYNCHRONIZED, Tree.Kind.ASSERT, Tree.Kind.LAMBDA_EXPRESSION, Tree.Kind.MEMBER_REFERENCE,
            Tree.Kind.IMPORT, Tree.Kind.PACKAGE, Tree.Kind.ANNOTATION, Tree.Kind.STRING_LITERAL,
            Tree.Kind.FLOAT_LITERAL, Tree.Kind.DOUBLE_LITERAL, Tree.Kind.DO_WHILE_LOOP);
    private static final Set<Tree.Kind> LOOPS = EnumSet.of(Tree.Kind.FOR_LOOP, Tree.Kind.WHILE_LOOP,
            Tree.Kind.ENHANCED_FOR_LOOP);
    private static final Set<Tree.Kind> DIVISIONS = EnumSet.of(Tree.Kind.DIVIDE, Tree.Kind.REMAINDER,
            Tree.Kind.DIVIDE_ASSIGNMENT, Tree.Kind.REMAINDER_ASSIGNMENT);
    private static final Set<String> OBJECT_METHODS = Set.of("equals", "hashCode", "toString", "finalize", "clone");

    private static final int MOST_PARAMETERS = 7;
    private static final int MOST_LINES = 60;
    private static final int MOST_CLASSES = 12;
    private static final int MOST_FIELDS = 20;
    private static final int DEEPEST_CALLS = 8;

    private final CompilationUnitTree unit;
    private final Trees trees;
    private final SourcePositions positions;
    private final List<TypeElement> classes = new ArrayList<>();
    private final Map<Element, Set<Element>> calls = new LinkedHashMap<>();
    private final Map<Element, Integer> depths = new HashMap<>();

    private LanguageTest(CompilationUnitTree unit, Trees trees) {
        this.unit = unit;
        this.trees = trees;
        this.positions = trees.getSourcePositions();
    }

    public static void main(String[] args) throws IOException {
        JavaCompiler compiler = ToolProvider.getSystemJavaCompiler();
        try (StandardJavaFileManager files = compiler.getStandardFileManager(null, null, null)) {
            JavacTask task = (JavacTask) compiler.getTask(null, files, null, List.of("-proc:none"), null,
                    files.getJavaFileObjects(SOURCE));
            CompilationUnitTree unit = task.parse().iterator().next();
            task.analyze();
            LanguageTest rules = new LanguageTest(unit, Trees.instance(task));
            Due.is("rule 1: classes of the file", unit.getTypeDecls().size(), 1);
            rules.collectClasses();
            rules.scan(unit, null);
            rules.callsEnd();
        }
        Due.end();
    }

    private void holds(Tree tree, String rule, boolean holds) {
        long line = unit.getLineMap().getLineNumber(positions.getStartPosition(unit, tree));
        Due.holds("line " + line + ", " + rule + ": " + tree.toString().split("\n")[0], holds);
    }

    private void collectClasses() {
        new TreePathScanner<Void, Void>() {
            @Override
            public Void visitClass(ClassTree tree, Void none) {
                classes.add((TypeElement) trees.getElement(getCurrentPath()));
                return super.visitClass(tree, none);
            }
        }.scan(unit, null);
        Due.holds("rule 11: " + classes.size() + " classes", classes.size() <= MOST_CLASSES);
    }

    private Element element() {
        return trees.getElement(getCurrentPath());
    }

    private MethodTree methodAround() {
        for (TreePath path = getCurrentPath(); path != null; path = path.getParentPath()) {
            if (path.getLeaf() instanceof MethodTree method) {
                return method;
            }
        }
        return null;
    }

    @Override
    public Void scan(Tree tree, Void none) {
        if (tree != null) {
            holds(tree, "a rule refuses " + tree.getKind(), !REFUSED.contains(tree.getKind()));
        }
        return super.scan(tree, none);
    }

    // Rules 1, 2, 5 and 11: classes and their members

    @Override
    public Void visitClass(ClassTree tree, Void none) {
        Tree parent = getCurrentPath().getParentPath().getLeaf();
        Set<Modifier> modifiers = element().getModifiers();
        if (parent != unit) {
            holds(tree, "rule 2: a class stands in a class", parent.getKind() == Tree.Kind.CLASS);
            holds(tree, "rule 2: a class inside is static", modifiers.contains(Modifier.STATIC));
            holds(tree, "rule 1: a class inside is hidden",
                    !modifiers.contains(Modifier.PUBLIC) && !modifiers.contains(Modifier.PROTECTED));
        }
        int fields = 0;
        for (Tree member : tree.getMembers()) {
            holds(member, "rule 5: no initialiser block", member.getKind() != Tree.Kind.BLOCK);
            if (member instanceof VariableTree field) {
                boolean constant = field.getModifiers().getFlags().contains(Modifier.STATIC);
                fields += constant ? 0 : 1;
            }
        }
        holds(tree, "rule 11: " + fields + " fields", fields <= MOST_FIELDS);
        return super.visitClass(tree, none);
    }

    @Override
    public Void visitMethod(MethodTree tree, Void none) {
        String name = tree.getName().toString();
        holds(tree, "rule 6: no method of Object", !OBJECT_METHODS.contains(name));
        holds(tree, "rule 6: no throws", tree.getThrows().isEmpty());
        holds(tree, "rule 11: parameters", tree.getParameters().size() <= MOST_PARAMETERS);
        long first = unit.getLineMap().getLineNumber(positions.getStartPosition(unit, tree));
        long last = unit.getLineMap().getLineNumber(positions.getEndPosition(unit, tree));
        holds(tree, "rule 11: lines", last - first < MOST_LINES);
        calls.putIfAbsent(element(), new LinkedHashSet<>());
        return super.visitMethod(tree, none);
    }

    @Override
    public Void visitVariable(VariableTree tree, Void none) {
        VariableElement variable = (VariableElement) element();
        holds(tree, "rule 3: the type", isAllowed(variable.asType()));
        if (variable.getModifiers().contains(Modifier.STATIC)) {
            holds(tree, "rule 5: a static field is a constant", variable.getConstantValue() != null);
        }
        return super.visitVariable(tree, none);
    }

    private boolean isAllowed(TypeMirror type) {
        if (type.getKind() == TypeKind.ARRAY) {
            TypeMirror part = ((ArrayType) type).getComponentType();
            if (part.getKind() == TypeKind.ARRAY) {
                return ((ArrayType) part).getComponentType().getKind().isPrimitive();
            }
            return isAllowed(part);
        }
        return type.getKind().isPrimitive() || isOwn(type);
    }

    private boolean isOwn(TypeMirror type) {
        return classes.stream().anyMatch(own -> own.asType().toString().equals(type.toString()));
    }

    // Rule 4: the library. A name is one of the file's own, or the length of an array.

    private void isOfTheFile(ExpressionTree tree) {
        Element named = element();
        for (Element around = named; around != null; around = around.getEnclosingElement()) {
            if (classes.contains(around)) {
                return;
            }
        }
        holds(tree, "rule 4: a name of the library", named != null && named.getSimpleName().contentEquals("length"));
    }

    @Override
    public Void visitIdentifier(IdentifierTree tree, Void none) {
        if (!isConstructorCall(tree)) {
            isOfTheFile(tree);
        }
        return super.visitIdentifier(tree, none);
    }

    @Override
    public Void visitMemberSelect(MemberSelectTree tree, Void none) {
        isOfTheFile(tree);
        return super.visitMemberSelect(tree, none);
    }

    private static boolean isConstructorCall(ExpressionTree called) {
        return called instanceof IdentifierTree name
                && (name.getName().contentEquals("super") || name.getName().contentEquals("this"));
    }

    // Rules 6 and 7: casts and divisors

    @Override
    public Void visitTypeCast(TypeCastTree tree, Void none) {
        holds(tree, "rule 6: a cast of a number", tree.getType().getKind() == Tree.Kind.PRIMITIVE_TYPE);
        return super.visitTypeCast(tree, none);
    }

    @Override
    public Void visitBinary(BinaryTree tree, Void none) {
        if (DIVISIONS.contains(tree.getKind())) {
            holds(tree, "rule 7: the divisor is looked at", isLookedAt(tree.getRightOperand()));
        }
        return super.visitBinary(tree, none);
    }

    @Override
    public Void visitCompoundAssignment(CompoundAssignmentTree tree, Void none) {
        if (DIVISIONS.contains(tree.getKind())) {
            holds(tree, "rule 7: the divisor is looked at", isLookedAt(tree.getExpression()));
        }
        return super.visitCompoundAssignment(tree, none);
    }

    /** A divisor is a number other than 0, or a name that its method asks to be greater than 0 or begins above it. */
    private boolean isLookedAt(ExpressionTree divisor) {
        if (divisor instanceof LiteralTree number) {
            return !number.getValue().equals(0) && !number.getValue().equals(0L);
        }
        boolean[] found = {false};
        new TreePathScanner<Void, Void>() {
            @Override
            public Void visitBinary(BinaryTree tree, Void none) {
                boolean same = tree.getLeftOperand().toString().equals(divisor.toString());
                String than = tree.getRightOperand().toString();
                found[0] |= tree.getKind() == Tree.Kind.GREATER_THAN && same && (than.equals("0") || than.equals("1"));
                return super.visitBinary(tree, none);
            }

            @Override
            public Void visitForLoop(ForLoopTree tree, Void none) {
                found[0] |= tree.getInitializer().toString().matches("int " + divisor + " = [1-9][0-9]*")
                        && tree.getUpdate().toString().equals(divisor + "++;");
                return super.visitForLoop(tree, none);
            }
        }.scan(new TreePath(getCurrentPath(), methodAround()), null);
        return divisor instanceof IdentifierTree && found[0];
    }

    // Rule 9: loops. A for has a bound and goes on towards it, and its body leaves the counter alone;
    // a while looks at a counter that its body steps on.

    @Override
    public Void visitForLoop(ForLoopTree tree, Void none) {
        boolean whole = tree.getInitializer().size() == 1 && tree.getCondition() != null && tree.getUpdate().size() == 1;
        holds(tree, "rule 9: a loop has a counter, a bound and a step", whole);
        if (!whole) {
            return super.visitForLoop(tree, none);
        }
        String counter = ((VariableTree) tree.getInitializer().get(0)).getName().toString();
        holds(tree, "rule 9: the bound is one of the counter", tree.getCondition().toString().contains(counter + " "));
        holds(tree, "rule 9: the step is one of the counter", tree.getUpdate().get(0).toString().contains(counter));
        new TreePathScanner<Void, Void>() {
            @Override
            public Void visitAssignment(AssignmentTree inside, Void none) {
                holds(inside, "rule 9: a counter stays", !inside.getVariable().toString().equals(counter));
                return super.visitAssignment(inside, none);
            }

            @Override
            public Void visitCompoundAssignment(CompoundAssignmentTree inside, Void none) {
                holds(inside, "rule 9: a counter stays", !inside.getVariable().toString().equals(counter));
                return super.visitCompoundAssignment(inside, none);
            }
        }.scan(new TreePath(getCurrentPath(), tree.getStatement()), null);
        return super.visitForLoop(tree, none);
    }

    @Override
    public Void visitWhileLoop(WhileLoopTree tree, Void none) {
        boolean[] found = {false};
        new TreePathScanner<Void, Void>() {
            @Override
            public Void visitUnary(UnaryTree step, Void none) {
                found[0] |= step.getKind() == Tree.Kind.POSTFIX_INCREMENT
                        && tree.getCondition().toString().contains(step.getExpression() + " <");
                return super.visitUnary(step, none);
            }
        }.scan(new TreePath(getCurrentPath(), tree.getStatement()), null);
        holds(tree, "rule 9: a loop steps on what its bound looks at", found[0]);
        return super.visitWhileLoop(tree, none);
    }

    // Rule 12: objects

    private void isMadeOnce(Tree tree) {
        for (TreePath path = getCurrentPath(); path != null; path = path.getParentPath()) {
            holds(tree, "rule 12: nothing is made in a loop", !LOOPS.contains(path.getLeaf().getKind()));
        }
    }

    @Override
    public Void visitNewArray(NewArrayTree tree, Void none) {
        isMadeOnce(tree);
        holds(tree, "rule 12: a row is made with its object", methodAround() == null);
        return super.visitNewArray(tree, none);
    }

    @Override
    public Void visitNewClass(NewClassTree tree, Void none) {
        isMadeOnce(tree);
        holds(tree, "rule 2: no class without a name", tree.getClassBody() == null);
        return super.visitNewClass(tree, none);
    }

    // Rules 8, 11 and 12: calls

    @Override
    public Void visitMethodInvocation(MethodInvocationTree tree, Void none) {
        MethodTree caller = methodAround();
        holds(tree, "rule 12: no call within an initialiser", caller != null);
        if (caller != null && !isConstructorCall(tree.getMethodSelect())) {
            holds(tree, "rule 12: a constructor calls nothing", caller.getReturnType() != null);
            Element from = trees.getElement(trees.getPath(unit, caller));
            calls.computeIfAbsent(from, key -> new LinkedHashSet<>()).addAll(calledBy(tree));
        }
        return super.visitMethodInvocation(tree, none);
    }

    /** The method that is named, and, unless super names it, those of subclasses with the same name. */
    private Set<Element> calledBy(MethodInvocationTree tree) {
        ExecutableElement named = (ExecutableElement) trees.getElement(new TreePath(getCurrentPath(),
                tree.getMethodSelect()));
        Set<Element> found = new HashSet<>(Set.of(named));
        if (tree.getMethodSelect().toString().startsWith("super.")) {
            return found;
        }
        for (TypeElement own : classes) {
            for (TypeElement above = own; above != null; above = superclassOf(above)) {
                if (above.equals(named.getEnclosingElement())) {
                    addNamesakes(found, own, named);
                }
            }
        }
        return found;
    }

    private TypeElement superclassOf(TypeElement own) {
        return classes.stream().filter(other -> other.asType().toString().equals(own.getSuperclass().toString()))
                .findFirst().orElse(null);
    }

    private static void addNamesakes(Set<Element> found, TypeElement own, ExecutableElement named) {
        for (Element member : own.getEnclosedElements()) {
            if (member.getKind() == ElementKind.METHOD && member.getSimpleName().equals(named.getSimpleName())) {
                found.add(member);
            }
        }
    }

    private void callsEnd() {
        for (Element method : calls.keySet()) {
            int depth = depthOf(method, new LinkedHashSet<>());
            Due.holds("rules 8 and 11: calls stand " + depth + " deep in " + method, depth <= DEEPEST_CALLS);
        }
    }

    private int depthOf(Element method, Set<Element> open) {
        if (depths.containsKey(method)) {
            return depths.get(method);
        }
        Due.holds("rule 8: no method calls itself, " + open + " and then " + method, !open.contains(method));
        if (!open.add(method)) {
            return 1;
        }
        int deepest = 0;
        for (Element called : calls.getOrDefault(method, Set.of())) {
            deepest = Math.max(deepest, depthOf(called, open));
        }
        open.remove(method);
        depths.put(method, deepest + 1);
        return deepest + 1;
    }
}
