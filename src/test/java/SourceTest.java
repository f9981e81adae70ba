import com.sun.source.tree.BinaryTree;
import com.sun.source.tree.BlockTree;
import com.sun.source.tree.ClassTree;
import com.sun.source.tree.CompilationUnitTree;
import com.sun.source.tree.CompoundAssignmentTree;
import com.sun.source.tree.ExpressionTree;
import com.sun.source.tree.ForLoopTree;
import com.sun.source.tree.ImportTree;
import com.sun.source.tree.LiteralTree;
import com.sun.source.tree.MethodInvocationTree;
import com.sun.source.tree.MethodTree;
import com.sun.source.tree.NewArrayTree;
import com.sun.source.tree.NewClassTree;
import com.sun.source.tree.ParenthesizedTree;
import com.sun.source.tree.Tree;
import com.sun.source.tree.TypeCastTree;
import com.sun.source.tree.VariableTree;
import com.sun.source.tree.WhileLoopTree;
import com.sun.source.util.JavacTask;
import com.sun.source.util.TreePath;
import com.sun.source.util.TreePathScanner;
import com.sun.source.util.Trees;
import java.nio.file.Files;
import java.nio.file.Path;
import java.util.ArrayDeque;
import java.util.Deque;
import java.util.EnumSet;
import java.util.HashMap;
import java.util.HashSet;
import java.util.LinkedHashMap;
import java.util.LinkedHashSet;
import java.util.List;
import java.util.Map;
import java.util.Set;
import java.util.TreeSet;
import javax.lang.model.element.Element;
import javax.lang.model.element.ElementKind;
import javax.lang.model.element.ExecutableElement;
import javax.lang.model.element.Modifier;
import javax.lang.model.element.TypeElement;
import javax.lang.model.element.VariableElement;
import javax.lang.model.type.TypeMirror;
import javax.tools.JavaCompiler;
import javax.tools.StandardJavaFileManager;
import javax.tools.ToolProvider;

/** LANGUAGE.md, as far as the compiler's own tree of the source can tell; each check says its rule. */
public final class SourceTest {
    /** Rule 4: what the class uses of the library; all of it stands there. */
    private static final Set<String> LIBRARY = Set.of(
        "java.lang.String.length()", "java.lang.String.charAt(int)",
        "java.lang.Integer.bitCount(int)", "java.lang.Integer.numberOfTrailingZeros(int)",
        "java.lang.Math.min(int,int)", "java.lang.Math.abs(int)",
        "java.util.Arrays.fill(int[],int)",
        "java.lang.System.arraycopy(java.lang.Object,int,java.lang.Object,int,int)",
        "java.lang.Object.Object()");

    /** What rules 2 and 6 leave out, and what the class does without, though the rules allow it. */
    private static final Set<Tree.Kind> FORBIDDEN = EnumSet.of(
        Tree.Kind.THROW, Tree.Kind.TRY, Tree.Kind.CATCH, Tree.Kind.SYNCHRONIZED, Tree.Kind.ASSERT,
        Tree.Kind.LAMBDA_EXPRESSION, Tree.Kind.MEMBER_REFERENCE, Tree.Kind.INSTANCE_OF, Tree.Kind.ANNOTATION,
        Tree.Kind.DO_WHILE_LOOP, Tree.Kind.ENHANCED_FOR_LOOP, Tree.Kind.PARAMETERIZED_TYPE, Tree.Kind.UNION_TYPE, Tree.Kind.YIELD,
        Tree.Kind.DOUBLE_LITERAL, Tree.Kind.FLOAT_LITERAL);

    private static final Set<Tree.Kind> COMPARED = EnumSet.of(
        Tree.Kind.LESS_THAN, Tree.Kind.LESS_THAN_EQUAL, Tree.Kind.GREATER_THAN, Tree.Kind.GREATER_THAN_EQUAL);

    private static final int MOST_DEEP = 8;
    private static final int MOST_LINES = 60;
    private static final int MOST_PARAMETERS = 7;
    private static final int MOST_CLASSES = 12;
    private static final int MOST_FIELDS = 20;

    private final Due due = new Due();
    private final Map<ExecutableElement, Set<ExecutableElement>> calls = new LinkedHashMap<>();
    private CompilationUnitTree unit;
    private Trees trees;

    public static void main(String[] args) throws Exception {
        SourceTest test = new SourceTest();
        test.look(Path.of(args.length > 0 ? args[0] : "src/main/java/WhatWasNearly.java"));
        test.due.close();
    }

    private void look(Path source) throws Exception {
        JavaCompiler compiler = ToolProvider.getSystemJavaCompiler();
        try (StandardJavaFileManager files = compiler.getStandardFileManager(null, null, null)) {
            JavacTask task = (JavacTask) compiler.getTask(null, files, null, List.of("-proc:none", "--release", "17"), null,
                files.getJavaFileObjects(source));
            unit = task.parse().iterator().next();
            task.analyze();
            trees = Trees.instance(task);
        }
        due.is("rule 4: signs 1 to 127 alone", Files.readString(source).matches("[\\x01-\\x7f]*"), true);
        due.is("no package line", unit.getPackageName() == null, true);
        due.is("rule 2: one class at the top", unit.getTypeDecls().size(), 1);
        for (ImportTree i : unit.getImports()) {
            due.is("rule 4: import " + i.getQualifiedIdentifier(), i.getQualifiedIdentifier().toString().equals("java.util.Arrays"), true);
        }
        new Look().scan(unit, null);
        due.is("methods seen", calls.size() > 100, true);
        recursion();
        due.is("rule 11: calls go at most eight deep", deepest() <= MOST_DEEP, true);
    }

    private void holds(int rule, String what, TreePath at, boolean kept) {
        long line = unit.getLineMap().getLineNumber(start(at.getLeaf()));
        due.is("rule " + rule + ", line " + line + ": " + what, kept, true);
    }

    private long start(Tree tree) {
        return trees.getSourcePositions().getStartPosition(unit, tree);
    }

    private boolean own(Element e) {
        for (Element x = e; x != null; x = x.getEnclosingElement()) {
            if (x.toString().equals("WhatWasNearly")) {
                return true;
            }
        }
        return false;
    }

    /** Goes through the whole tree once. */
    private final class Look extends TreePathScanner<Void, Void> {
        private final Deque<ExecutableElement> inside = new ArrayDeque<>();
        private int classes;

        @Override
        public Void scan(Tree tree, Void none) {
            if (tree != null && FORBIDDEN.contains(tree.getKind())) {
                long line = unit.getLineMap().getLineNumber(start(tree));
                due.is("rules 2 and 6, line " + line + ": no " + tree.getKind(), false, true);
            }
            return super.scan(tree, none);
        }

        @Override
        public Void visitClass(ClassTree tree, Void none) {
            classes++;
            holds(11, "some twelve classes", getCurrentPath(), classes <= MOST_CLASSES);
            Set<Modifier> flags = tree.getModifiers().getFlags();
            holds(2, tree.getSimpleName() + " is a plain class", getCurrentPath(),
                tree.getKind() == Tree.Kind.CLASS && tree.getExtendsClause() == null && tree.getImplementsClause().isEmpty());
            boolean top = getCurrentPath().getParentPath().getLeaf() == unit;
            boolean nested = getCurrentPath().getParentPath().getLeaf() instanceof ClassTree;
            holds(2, tree.getSimpleName() + " is the class, or static within it", getCurrentPath(),
                top && flags.equals(Set.of(Modifier.PUBLIC, Modifier.FINAL))
                || nested && flags.equals(Set.of(Modifier.PRIVATE, Modifier.STATIC, Modifier.FINAL)));
            int fields = 0;
            for (Tree member : tree.getMembers()) {
                if (member instanceof VariableTree v && !v.getModifiers().getFlags().contains(Modifier.STATIC)) {
                    fields++;
                    holds(1, v.getName() + " is private", getCurrentPath(), v.getModifiers().getFlags().contains(Modifier.PRIVATE));
                }
                holds(5, "no initialiser block", getCurrentPath(), !(member instanceof BlockTree));
            }
            holds(11, tree.getSimpleName() + " has some twenty fields", getCurrentPath(), fields <= MOST_FIELDS);
            return super.visitClass(tree, none);
        }

        @Override
        public Void visitMethod(MethodTree tree, Void none) {
            ExecutableElement method = (ExecutableElement) trees.getElement(getCurrentPath());
            calls.put(method, new LinkedHashSet<>());
            holds(11, method + " has at most seven parameters", getCurrentPath(), tree.getParameters().size() <= MOST_PARAMETERS);
            long first = unit.getLineMap().getLineNumber(start(tree));
            long last = unit.getLineMap().getLineNumber(trees.getSourcePositions().getEndPosition(unit, tree));
            holds(11, method + " is short", getCurrentPath(), last - first < MOST_LINES);
            holds(6, method + " throws nothing", getCurrentPath(), tree.getThrows().isEmpty());
            holds(2, method + " is no generic one", getCurrentPath(), tree.getTypeParameters().isEmpty());
            inside.push(method);
            super.visitMethod(tree, none);
            inside.pop();
            return null;
        }

        @Override
        public Void visitVariable(VariableTree tree, Void none) {
            TypeMirror type = trees.getElement(getCurrentPath()).asType();
            String name = type.toString();
            boolean number = Set.of("int", "long", "boolean", "int[]").contains(name);
            boolean ours = name.replace("[]", "").startsWith("WhatWasNearly") && !name.endsWith("[][]");
            holds(3, "the type of " + tree.getName() + ": " + name, getCurrentPath(), number || ours || name.equals("java.lang.String"));
            if (tree.getModifiers().getFlags().contains(Modifier.STATIC)) {
                VariableElement constant = (VariableElement) trees.getElement(getCurrentPath());
                holds(5, tree.getName() + " is a constant", getCurrentPath(),
                    constant.getModifiers().contains(Modifier.FINAL) && constant.getConstantValue() != null);
            }
            return super.visitVariable(tree, none);
        }

        @Override
        public Void visitMethodInvocation(MethodInvocationTree tree, Void none) {
            called(trees.getElement(getCurrentPath()));
            return super.visitMethodInvocation(tree, none);
        }

        @Override
        public Void visitNewClass(NewClassTree tree, Void none) {
            holds(2, "no class without a name", getCurrentPath(), tree.getClassBody() == null);
            made();
            called(trees.getElement(getCurrentPath()));
            return super.visitNewClass(tree, none);
        }

        @Override
        public Void visitNewArray(NewArrayTree tree, Void none) {
            made();
            holds(3, "one dimension", getCurrentPath(), tree.getDimensions().size() == 1);
            for (ExpressionTree length : tree.getDimensions()) {
                holds(7, "a length that is known", getCurrentPath(), isConstant(length));
            }
            return super.visitNewArray(tree, none);
        }

        /** Rule 12: objects are made with the object that has them, never by a call. */
        private void made() {
            holds(12, "made in a constructor", getCurrentPath(),
                inside.isEmpty() || inside.peek().getKind() == ElementKind.CONSTRUCTOR);
        }

        private void called(Element callee) {
            ExecutableElement method = (ExecutableElement) callee;
            if (own(method)) {
                if (!inside.isEmpty()) {
                    calls.get(inside.peek()).add(method);
                }
                return;
            }
            String name = ((TypeElement) method.getEnclosingElement()).getQualifiedName() + "."
                + (method.getKind() == ElementKind.CONSTRUCTOR ? "Object()" : method.toString());
            holds(4, name + " stands there", getCurrentPath(), LIBRARY.contains(name));
        }

        @Override
        public Void visitTypeCast(TypeCastTree tree, Void none) {
            String to = tree.getType().toString();
            holds(6, "casts among numbers alone: " + to, getCurrentPath(), to.equals("int") || to.equals("long"));
            return super.visitTypeCast(tree, none);
        }

        @Override
        public Void visitBinary(BinaryTree tree, Void none) {
            if (tree.getKind() == Tree.Kind.DIVIDE || tree.getKind() == Tree.Kind.REMAINDER) {
                divisor(tree.getRightOperand());
            }
            if (tree.getKind() == Tree.Kind.EQUAL_TO || tree.getKind() == Tree.Kind.NOT_EQUAL_TO) {
                boolean withNull = tree.getRightOperand().getKind() == Tree.Kind.NULL_LITERAL;
                TypeMirror type = trees.getTypeMirror(new TreePath(getCurrentPath(), tree.getLeftOperand()));
                holds(6, "== of numbers, or with null: " + tree, getCurrentPath(), withNull || type.getKind().isPrimitive());
            }
            if (tree.getKind() == Tree.Kind.PLUS) {
                TypeMirror type = trees.getTypeMirror(getCurrentPath());
                holds(10, "no texts joined: " + tree, getCurrentPath(), type.getKind().isPrimitive());
            }
            return super.visitBinary(tree, none);
        }

        @Override
        public Void visitCompoundAssignment(CompoundAssignmentTree tree, Void none) {
            holds(7, "no /= and %=", getCurrentPath(),
                tree.getKind() != Tree.Kind.DIVIDE_ASSIGNMENT && tree.getKind() != Tree.Kind.REMAINDER_ASSIGNMENT);
            return super.visitCompoundAssignment(tree, none);
        }

        /** Rule 7: a divisor is a number that stands there, or is looked at in the same method. */
        private void divisor(ExpressionTree divisor) {
            if (isConstant(divisor)) {
                return;
            }
            TreePath method = getCurrentPath();
            while (!(method.getLeaf() instanceof MethodTree)) {
                method = method.getParentPath();
            }
            String body = method.getLeaf().toString();
            String name = divisor.toString();
            boolean looked = body.contains(name + " == 0") || body.contains(name + " != 0")
                || body.contains(name + " > 0") || body.contains(name + " < 1") || name.equals("wayCount()");
            holds(7, "the divisor " + name + " is looked at", getCurrentPath(), looked);
        }

        private boolean isConstant(ExpressionTree value) {
            if (value instanceof LiteralTree l) {
                return l.getValue() instanceof Integer i && i > 0;
            }
            if (value instanceof BinaryTree b) {
                return isConstant(b.getLeftOperand()) && isConstant(b.getRightOperand());
            }
            Element e = trees.getElement(new TreePath(getCurrentPath(), value));
            return e instanceof VariableElement v
                && v.getConstantValue() instanceof Integer i && i > 0;
        }

        @Override
        public Void visitForLoop(ForLoopTree tree, Void none) {
            bounded(tree.getCondition());
            holds(9, "a counter that goes on", getCurrentPath(), tree.getUpdate().size() == 1);
            return super.visitForLoop(tree, none);
        }

        @Override
        public Void visitWhileLoop(WhileLoopTree tree, Void none) {
            bounded(tree.getCondition());
            return super.visitWhileLoop(tree, none);
        }

        private void bounded(ExpressionTree condition) {
            holds(9, "a counter against a bound: " + condition, getCurrentPath(), isBounded(condition));
        }

        private boolean isBounded(ExpressionTree condition) {
            if (condition instanceof ParenthesizedTree p) {
                return isBounded(p.getExpression());
            }
            if (condition instanceof BinaryTree b && b.getKind() == Tree.Kind.CONDITIONAL_AND) {
                return isBounded(b.getLeftOperand()) || isBounded(b.getRightOperand());
            }
            return condition != null && COMPARED.contains(condition.getKind());
        }
    }

    private boolean reaches(ExecutableElement from, ExecutableElement to) {
        Set<ExecutableElement> seen = new HashSet<>();
        Deque<ExecutableElement> open = new ArrayDeque<>(calls.getOrDefault(from, Set.of()));
        while (!open.isEmpty()) {
            ExecutableElement next = open.pop();
            if (next.equals(to)) {
                return true;
            }
            if (seen.add(next)) {
                open.addAll(calls.getOrDefault(next, Set.of()));
            }
        }
        return false;
    }

    /** Rule 8: only what carries its depth as an argument, and is private, calls itself again. */
    private void recursion() {
        Set<String> again = new TreeSet<>();
        for (ExecutableElement method : calls.keySet()) {
            if (reaches(method, method)) {
                again.add(method.getSimpleName().toString());
                due.is("rule 8: " + method + " is private", method.getModifiers().contains(Modifier.PRIVATE), true);
                due.is("rule 8: " + method + " has its depth", method.getParameters().size() == 1
                    && method.getParameters().get(0).toString().equals("open"), true);
            }
        }
        due.is("rule 8: what calls itself again is known: " + again, again.equals(new TreeSet<>(Set.of("readEither", "readBoth",
            "readAsk", "readCompared", "readSum", "readProduct", "readOne", "readCounted"))), true);
    }

    /** How many calls stand open at once, at most; methods that call one another again count as one. */
    private int deepest() {
        Map<ExecutableElement, Integer> known = new HashMap<>();
        int most = 0;
        for (ExecutableElement method : calls.keySet()) {
            most = Math.max(most, depth(method, known));
        }
        return most;
    }

    private int depth(ExecutableElement method, Map<ExecutableElement, Integer> known) {
        if (known.containsKey(method)) {
            return known.get(method);
        }
        int most = 0;
        for (ExecutableElement one : together(method)) {
            for (ExecutableElement next : calls.getOrDefault(one, Set.of())) {
                if (!reaches(next, method)) {
                    most = Math.max(most, depth(next, known));
                }
            }
        }
        known.put(method, most + 1);
        return most + 1;
    }

    /** A method and those that call it again. */
    private Set<ExecutableElement> together(ExecutableElement method) {
        Set<ExecutableElement> all = new LinkedHashSet<>(Set.of(method));
        for (ExecutableElement other : calls.keySet()) {
            if (reaches(method, other) && reaches(other, method)) {
                all.add(other);
            }
        }
        return all;
    }
}
