import com.sun.source.tree.BinaryTree;
import com.sun.source.tree.ClassTree;
import com.sun.source.tree.CompilationUnitTree;
import com.sun.source.tree.ImportTree;
import com.sun.source.tree.LineMap;
import com.sun.source.tree.MethodInvocationTree;
import com.sun.source.tree.MethodTree;
import com.sun.source.tree.NewClassTree;
import com.sun.source.tree.ThrowTree;
import com.sun.source.tree.Tree;
import com.sun.source.tree.VariableTree;
import com.sun.source.util.JavacTask;
import com.sun.source.util.TreePath;
import com.sun.source.util.TreePathScanner;
import com.sun.source.util.Trees;
import java.io.File;
import java.io.IOException;
import java.util.ArrayList;
import java.util.EnumSet;
import java.util.HashSet;
import java.util.List;
import java.util.Map;
import java.util.Set;
import java.util.TreeMap;
import java.util.TreeSet;
import javax.lang.model.element.Element;
import javax.lang.model.element.Modifier;
import javax.lang.model.element.TypeElement;
import javax.tools.JavaCompiler;
import javax.tools.StandardJavaFileManager;
import javax.tools.ToolProvider;

/** What can be told by a machine of ../shared/LANGUAGE.md, of the source of the class; FaceTest tells rules 1 and 5. */
public final class LanguageTest {
    private static final File SOURCE = new File("src/main/java/SplaySequence.java");
    private static final int MOST_CLASSES = 12;
    private static final int MOST_FIELDS = 20;
    private static final int MOST_PARAMETERS = 7;
    private static final int MOST_LINES = 60;
    private static final int MOST_DEEP = 8;

    /** Rule 4: what the class calls of the library; more of what the rule lists may be put here. */
    private static final Set<String> LIBRARY = Set.of("java.lang.System.arraycopy", "java.lang.Math.max",
            "java.lang.Math.min");
    /** Rule 6: the exceptions of the document, all of which the rule lists. */
    private static final Set<String> EXCEPTIONS = Set.of("IndexOutOfBoundsException", "IllegalArgumentException",
            "IllegalStateException");
    /** Rules 2, 6 and 10: kinds of code that the class must not have, or has no need of. */
    private static final Set<Tree.Kind> FORBIDDEN = EnumSet.of(Tree.Kind.LAMBDA_EXPRESSION,
            Tree.Kind.MEMBER_REFERENCE, Tree.Kind.TRY, Tree.Kind.CATCH, Tree.Kind.SYNCHRONIZED, Tree.Kind.ASSERT,
            Tree.Kind.IMPORT, Tree.Kind.PACKAGE, Tree.Kind.TYPE_CAST, Tree.Kind.INSTANCE_OF, Tree.Kind.DIVIDE,
            Tree.Kind.REMAINDER, Tree.Kind.DIVIDE_ASSIGNMENT, Tree.Kind.REMAINDER_ASSIGNMENT, Tree.Kind.ANNOTATION,
            Tree.Kind.DOUBLE_LITERAL, Tree.Kind.FLOAT_LITERAL);

    private static final Checks CHECKS = new Checks();

    private final Map<String, Set<String>> calls = new TreeMap<>();
    private int classes = 0;

    private LanguageTest() {
    }

    public static void main(String[] args) throws IOException {
        new LanguageTest().read();
        CHECKS.end("LanguageTest");
    }

    private static void rule(int number, String what, boolean kept) {
        CHECKS.isText(0, "rule " + number + ", " + what, kept ? "kept" : "broken", "kept");
    }

    private void read() throws IOException {
        JavaCompiler compiler = ToolProvider.getSystemJavaCompiler();
        try (StandardJavaFileManager files = compiler.getStandardFileManager(null, null, null)) {
            JavacTask task = (JavacTask) compiler.getTask(null, files, null, List.of("-proc:none"), null,
                    files.getJavaFileObjects(SOURCE));
            List<CompilationUnitTree> units = new ArrayList<>();
            task.parse().forEach(units::add);
            task.analyze();
            for (CompilationUnitTree unit : units) {
                new Reader(Trees.instance(task), unit).scan(unit, null);
            }
        }
        rule(11, classes + " classes", classes <= MOST_CLASSES);
        for (String method : calls.keySet()) {
            int deep = depth(method, new HashSet<>());
            rule(11, method + " goes " + deep + " deep", deep <= MOST_DEEP);
        }
        CHECKS.is(0, "methods found", calls.size() > 28 ? 1 : 0, 1);
    }

    /** How many calls stand open at most, the one of the method itself among them. */
    private int depth(String method, Set<String> open) {
        if (!open.add(method)) {
            rule(8, method + " calls itself, which the class has no need of,", false);
            return 1;
        }
        int deepest = 0;
        for (String called : calls.getOrDefault(method, Set.of())) {
            deepest = Math.max(deepest, depth(called, open));
        }
        open.remove(method);
        return deepest + 1;
    }

    /** Goes through the source once. */
    private final class Reader extends TreePathScanner<Void, Void> {
        private final Trees trees;
        private final CompilationUnitTree unit;
        private String method = "";

        Reader(Trees trees, CompilationUnitTree unit) {
            this.trees = trees;
            this.unit = unit;
        }

        @Override
        public Void scan(Tree tree, Void nothing) {
            if (tree != null) {
                rule(4, "no " + tree.getKind() + " at line " + line(tree), !FORBIDDEN.contains(tree.getKind()));
            }
            return super.scan(tree, nothing);
        }

        @Override
        public Void visitImport(ImportTree tree, Void nothing) {
            rule(4, "no " + tree, false);
            return super.visitImport(tree, nothing);
        }

        @Override
        public Void visitClass(ClassTree tree, Void nothing) {
            classes++;
            long fields = tree.getMembers().stream().filter(member -> member instanceof VariableTree field
                    && !field.getModifiers().getFlags().contains(Modifier.STATIC)).count();
            rule(11, tree.getSimpleName() + " has " + fields + " fields", fields <= MOST_FIELDS);
            return super.visitClass(tree, nothing);
        }

        @Override
        public Void visitMethod(MethodTree tree, Void nothing) {
            String outer = method;
            Element here = trees.getElement(getCurrentPath());
            method = here.getEnclosingElement() + "." + here;
            calls.put(method, new TreeSet<>());
            rule(11, method + " has its parameters", tree.getParameters().size() <= MOST_PARAMETERS);
            LineMap map = unit.getLineMap();
            long last = map.getLineNumber(trees.getSourcePositions().getEndPosition(unit, tree));
            rule(11, method + " is short", last - line(tree) < MOST_LINES);
            super.visitMethod(tree, nothing);
            method = outer;
            return null;
        }

        @Override
        public Void visitMethodInvocation(MethodInvocationTree tree, Void nothing) {
            called(trees.getElement(new TreePath(getCurrentPath(), tree.getMethodSelect())), tree);
            return super.visitMethodInvocation(tree, nothing);
        }

        @Override
        public Void visitNewClass(NewClassTree tree, Void nothing) {
            String name = tree.getIdentifier().toString();
            if (!EXCEPTIONS.contains(name)) {
                called(trees.getElement(getCurrentPath()), tree);
            }
            return super.visitNewClass(tree, nothing);
        }

        @Override
        public Void visitThrow(ThrowTree tree, Void nothing) {
            boolean made = tree.getExpression() instanceof NewClassTree thrown
                    && EXCEPTIONS.contains(thrown.getIdentifier().toString())
                    && thrown.getArguments().stream().allMatch(text -> text.getKind() == Tree.Kind.STRING_LITERAL);
            rule(6, tree.toString(), made && !method.contains("<init>"));
            return super.visitThrow(tree, nothing);
        }

        @Override
        public Void visitBinary(BinaryTree tree, Void nothing) {
            boolean text = tree.getLeftOperand().getKind() == Tree.Kind.STRING_LITERAL
                    || tree.getRightOperand().getKind() == Tree.Kind.STRING_LITERAL;
            rule(10, tree.toString(), !text);
            return super.visitBinary(tree, nothing);
        }

        private void called(Element element, Tree tree) {
            TypeElement type = (TypeElement) element.getEnclosingElement();
            boolean own = type.getQualifiedName().toString().startsWith("SplaySequence");
            String name = type + "." + (own ? element.toString() : element.getSimpleName().toString());
            boolean ofSuper = name.equals("java.lang.Object.<init>");
            rule(4, name + " at line " + line(tree), own || ofSuper || LIBRARY.contains(name));
            if (own && calls.containsKey(method)) {
                calls.get(method).add(name);
            }
        }

        private long line(Tree tree) {
            return unit.getLineMap().getLineNumber(trees.getSourcePositions().getStartPosition(unit, tree));
        }
    }
}
