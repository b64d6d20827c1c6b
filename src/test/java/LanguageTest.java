import com.sun.source.tree.BinaryTree;
import com.sun.source.tree.ClassTree;
import com.sun.source.tree.CompilationUnitTree;
import com.sun.source.tree.CompoundAssignmentTree;
import com.sun.source.tree.LiteralTree;
import com.sun.source.tree.MethodInvocationTree;
import com.sun.source.tree.MethodTree;
import com.sun.source.tree.NewClassTree;
import com.sun.source.tree.ThrowTree;
import com.sun.source.tree.Tree;
import com.sun.source.tree.VariableTree;
import com.sun.source.util.JavacTask;
import com.sun.source.util.SourcePositions;
import com.sun.source.util.TreePath;
import com.sun.source.util.TreePathScanner;
import com.sun.source.util.Trees;
import java.io.IOException;
import java.nio.file.Path;
import java.util.EnumSet;
import java.util.HashMap;
import java.util.HashSet;
import java.util.List;
import java.util.Map;
import java.util.Set;
import java.util.TreeSet;
import javax.lang.model.element.Element;
import javax.lang.model.element.ElementKind;
import javax.lang.model.element.ExecutableElement;
import javax.lang.model.element.Modifier;
import javax.lang.model.element.VariableElement;
import javax.tools.StandardJavaFileManager;
import javax.tools.ToolProvider;

/**
 * The rules of ../shared/LANGUAGE.md, as far as they can be read off the program's syntax. The test is narrower than
 * the rules where the program has no need of more: widen it by the rule's own words when the program needs it.
 */
public final class LanguageTest {
    private static final Set<String> LIBRARY = Set.of("Math.max", "Math.min", "Math.abs");
    private static final Set<String> EXCEPTIONS = Set.of("IllegalStateException", "IllegalArgumentException",
        "IndexOutOfBoundsException");
    private static final Set<String> TYPES = Set.of("int", "boolean", "int[]", "int[][]");
    private static final Set<Tree.Kind> REFUSED = EnumSet.of(Tree.Kind.TRY, Tree.Kind.SYNCHRONIZED, Tree.Kind.ASSERT,
        Tree.Kind.LAMBDA_EXPRESSION, Tree.Kind.MEMBER_REFERENCE, Tree.Kind.TYPE_CAST, Tree.Kind.INSTANCE_OF,
        Tree.Kind.WHILE_LOOP, Tree.Kind.DO_WHILE_LOOP);
    private static final int MOST_CLASSES = 12;
    private static final int MOST_FIELDS = 20;
    private static final int MOST_PARAMETERS = 7;
    private static final int MOST_LINES = 60;
    private static final int DEEPEST = 8;

    private static Trees trees;
    private static CompilationUnitTree unit;
    private static Set<String> ownClasses = new HashSet<>();
    private static Set<String> library = new TreeSet<>();
    private static Map<Element, Set<Element>> calls = new HashMap<>();

    public static void main(String[] args) throws IOException {
        read(args[0]);
        oneFileWithoutPackage();
        for (Tree type : unit.getTypeDecls()) {
            collectClasses((ClassTree) type);
        }
        new Rules().scan(unit, null);
        Check.due("rules 2 and 11: classes", true, () -> ownClasses.size() <= MOST_CLASSES);
        Check.same("rule 4: library beside " + LIBRARY, "[]", beside(library, LIBRARY).toString());
        depths();
        Check.end("LanguageTest");
    }

    private static void read(String file) throws IOException {
        var compiler = ToolProvider.getSystemJavaCompiler();
        try (StandardJavaFileManager files = compiler.getStandardFileManager(null, null, null)) {
            JavacTask task = (JavacTask) compiler.getTask(null, files, null, List.of("-proc:none"), null,
                files.getJavaFileObjects(Path.of(file)));
            unit = task.parse().iterator().next();
            task.analyze();
            trees = Trees.instance(task);
        }
    }

    private static void oneFileWithoutPackage() {
        Check.same("no package", "null", String.valueOf(unit.getPackageName()));
        Check.due("no imports", 0, () -> unit.getImports().size());
        Check.due("rule 1: one class of the file", 1, () -> unit.getTypeDecls().size());
    }

    private static Set<String> beside(Set<String> all, Set<String> allowed) {
        Set<String> others = new TreeSet<>(all);
        others.removeAll(allowed);
        return others;
    }

    private static void collectClasses(ClassTree type) {
        ownClasses.add(type.getSimpleName().toString());
        for (Tree member : type.getMembers()) {
            if (member instanceof ClassTree inside) {
                Set<Modifier> how = inside.getModifiers().getFlags();
                Check.due("rule 1: " + inside.getSimpleName(), true, () -> how.contains(Modifier.STATIC)
                    && !how.contains(Modifier.PUBLIC) && !how.contains(Modifier.PROTECTED));
                collectClasses(inside);
            }
        }
    }

    /** Rules 8 and 11: no method calls itself by any way, and the longest way of calls is short. */
    private static void depths() {
        Map<Element, Integer> known = new HashMap<>();
        for (Element method : calls.keySet()) {
            int deep = depth(method, new HashSet<>(), known);
            Check.due("rule 11: calls from " + method + " on: " + deep, true, () -> deep <= DEEPEST);
        }
    }

    private static int depth(Element method, Set<Element> open, Map<Element, Integer> known) {
        if (known.containsKey(method)) {
            return known.get(method);
        }
        if (!open.add(method)) {
            return DEEPEST + 1;
        }
        int deepest = 0;
        for (Element called : calls.getOrDefault(method, Set.of())) {
            deepest = Math.max(deepest, depth(called, open, known));
        }
        open.remove(method);
        known.put(method, deepest + 1);
        return deepest + 1;
    }

    private static final class Rules extends TreePathScanner<Void, Void> {
        private ExecutableElement method;

        @Override
        public Void scan(Tree tree, Void none) {
            if (tree != null && REFUSED.contains(tree.getKind())) {
                Check.same("rules 2, 6, 7 and 9: " + tree.getKind(), "none", tree.toString());
            }
            return super.scan(tree, none);
        }

        @Override
        public Void visitClass(ClassTree type, Void none) {
            int fields = 0;
            for (Tree member : type.getMembers()) {
                boolean field = member instanceof VariableTree;
                fields += field && !((VariableTree) member).getModifiers().getFlags().contains(Modifier.STATIC) ? 1 : 0;
                Check.due("rule 5: a static block in " + type.getSimpleName(), false,
                    () -> member.getKind() == Tree.Kind.BLOCK);
            }
            int counted = fields;
            Check.due("rule 11: fields of " + type.getSimpleName(), true, () -> counted <= MOST_FIELDS);
            return super.visitClass(type, none);
        }

        @Override
        public Void visitVariable(VariableTree variable, Void none) {
            VariableElement it = (VariableElement) trees.getElement(getCurrentPath());
            String type = variable.getType().toString();
            Check.due("rule 3: type of " + variable, true, () -> TYPES.contains(type) || ownClasses.contains(type));
            if (it.getKind() == ElementKind.FIELD) {
                Set<Modifier> how = it.getModifiers();
                Check.due("rule 1: field " + it, true, () -> how.contains(Modifier.PRIVATE));
                Check.due("rule 5: static " + it, true,
                    () -> !how.contains(Modifier.STATIC) || it.getConstantValue() != null);
            }
            return super.visitVariable(variable, none);
        }

        @Override
        public Void visitMethod(MethodTree tree, Void none) {
            method = (ExecutableElement) trees.getElement(getCurrentPath());
            calls.put(method, new HashSet<>());
            Check.due("rule 11: parameters of " + method, true, () -> tree.getParameters().size() <= MOST_PARAMETERS);
            Check.due("rule 11: lines of " + method, true, () -> lines(tree) <= MOST_LINES);
            Check.due("rule 6: synchronized " + method, false,
                () -> tree.getModifiers().getFlags().contains(Modifier.SYNCHRONIZED));
            return super.visitMethod(tree, none);
        }

        private static long lines(Tree tree) {
            SourcePositions at = trees.getSourcePositions();
            return unit.getLineMap().getLineNumber(at.getEndPosition(unit, tree))
                - unit.getLineMap().getLineNumber(at.getStartPosition(unit, tree)) + 1;
        }

        @Override
        public Void visitMethodInvocation(MethodInvocationTree call, Void none) {
            note(trees.getElement(new TreePath(getCurrentPath(), call.getMethodSelect())));
            return super.visitMethodInvocation(call, none);
        }

        /** What stands outside the file is the library's, and counts as a call too; javac itself writes super(). */
        private void note(Element called) {
            String owner = called.getEnclosingElement().getSimpleName().toString();
            if (owner.equals("Object") && called.getKind() == ElementKind.CONSTRUCTOR) {
                return;
            }
            if (!ownClasses.contains(owner)) {
                library.add(owner + "." + called.getSimpleName());
            }
            calls.computeIfAbsent(method, key -> new HashSet<>()).add(called);
        }

        @Override
        public Void visitNewClass(NewClassTree made, Void none) {
            String type = made.getIdentifier().toString();
            Check.due("rule 3 or 6: new " + type, true, () -> ownClasses.contains(type) || EXCEPTIONS.contains(type));
            Check.due("no anonymous " + type, true, () -> made.getClassBody() == null);
            if (ownClasses.contains(type)) {
                note(trees.getElement(getCurrentPath()));
            }
            return super.visitNewClass(made, none);
        }

        @Override
        public Void visitThrow(ThrowTree thrown, Void none) {
            boolean written = thrown.getExpression() instanceof NewClassTree made
                && EXCEPTIONS.contains(made.getIdentifier().toString())
                && made.getArguments().stream().allMatch(text -> text instanceof LiteralTree);
            Check.due("rule 6: " + thrown, true, () -> written);
            Check.due("rule 6: a throw in a constructor", false, () -> method.getKind() == ElementKind.CONSTRUCTOR);
            return super.visitThrow(thrown, none);
        }

        @Override
        public Void visitLiteral(LiteralTree literal, Void none) {
            boolean plain = literal.getValue() instanceof Integer || literal.getValue() instanceof Boolean
                || literal.getValue() instanceof String text && text.chars().allMatch(sign -> sign >= 1 && sign <= 127);
            Check.due("rules 3 and 4: " + literal, true, () -> plain);
            return super.visitLiteral(literal, none);
        }

        /** A divisor is a constant above 0. */
        @Override
        public Void visitBinary(BinaryTree binary, Void none) {
            boolean divides = binary.getKind() == Tree.Kind.DIVIDE || binary.getKind() == Tree.Kind.REMAINDER;
            if (divides) {
                Element by = trees.getElement(new TreePath(getCurrentPath(), binary.getRightOperand()));
                Check.due("rule 7: " + binary, true, () -> by instanceof VariableElement constant
                    && constant.getConstantValue() instanceof Integer number && number > 0);
            }
            return super.visitBinary(binary, none);
        }

        @Override
        public Void visitCompoundAssignment(CompoundAssignmentTree sum, Void none) {
            Check.due("rule 7: " + sum, true, () -> sum.getKind() == Tree.Kind.PLUS_ASSIGNMENT
                || sum.getKind() == Tree.Kind.MINUS_ASSIGNMENT);
            return super.visitCompoundAssignment(sum, none);
        }
    }
}
