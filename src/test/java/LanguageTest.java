import com.sun.source.tree.ArrayAccessTree;
import com.sun.source.tree.BinaryTree;
import com.sun.source.tree.ClassTree;
import com.sun.source.tree.CompilationUnitTree;
import com.sun.source.tree.LineMap;
import com.sun.source.tree.LiteralTree;
import com.sun.source.tree.MethodInvocationTree;
import com.sun.source.tree.MethodTree;
import com.sun.source.tree.NewArrayTree;
import com.sun.source.tree.NewClassTree;
import com.sun.source.tree.ThrowTree;
import com.sun.source.tree.Tree;
import com.sun.source.tree.TypeCastTree;
import com.sun.source.util.JavacTask;
import com.sun.source.util.TreePathScanner;
import com.sun.source.util.Trees;
import java.io.IOException;
import java.nio.file.Path;
import java.util.LinkedHashMap;
import java.util.List;
import java.util.Map;
import java.util.Set;
import java.util.TreeSet;
import javax.lang.model.element.Element;
import javax.tools.JavaCompiler;
import javax.tools.StandardJavaFileManager;
import javax.tools.ToolProvider;

/** What LANGUAGE.md says of the shape of the program: how deep calls go, and where the machine could throw. */
public final class LanguageTest {
    private static final Path PROGRAM = Path.of("src/main/java/Tallow.java");
    private static final int MOST_DEEP = 8;
    private static final int MOST_LINES = 60;
    private static final int MOST_PARAMETERS = 7;
    /** The methods that look at an index, or a divisor, before they use it. */
    private static final Set<String> INDEXED = Set.of("Numbers.at", "Numbers.put", "Kinds.daysIn",
        "Kinds.daysAheadOfMonth");
    private static final Set<String> DIVIDING = Set.of("Tallow.mean", "Reading.points");
    private static final Check check = new Check("LanguageTest");

    public static void main(String[] args) throws IOException {
        JavaCompiler compiler = ToolProvider.getSystemJavaCompiler();
        try (StandardJavaFileManager files = compiler.getStandardFileManager(null, null, null)) {
            JavacTask task = (JavacTask) compiler.getTask(null, files, null, List.of("-proc:none"), null,
                files.getJavaFileObjects(PROGRAM));
            CompilationUnitTree unit = task.parse().iterator().next();
            task.analyze();
            Shape shape = new Shape(unit, Trees.instance(task));
            shape.scan(unit, null);
            depth(shape.calls, shape.face);
        }
        check.end();
    }

    private static void depth(Map<String, Set<String>> calls, Set<String> face) {
        check.same("calls of the face", face.size(), 25);
        for (String call : face) {
            int deep = deepest(calls, call, 1);
            check.same(call + " goes " + deep + " deep, few enough", deep <= MOST_DEEP ? 1 : 0, 1);
        }
    }

    /** A method that calls itself would go deeper than any limit, so the way down ends behind it. */
    private static int deepest(Map<String, Set<String>> calls, String from, int deep) {
        int deepest = deep;
        if (deep <= MOST_DEEP) {
            for (String next : calls.getOrDefault(from, Set.of())) {
                deepest = Math.max(deepest, deepest(calls, next, deep + 1));
            }
        }
        return deepest;
    }

    /** Goes through the program, and gathers which method calls which. */
    private static final class Shape extends TreePathScanner<Void, Void> {
        final Map<String, Set<String>> calls = new LinkedHashMap<>();
        final Set<String> face = new TreeSet<>();
        private final CompilationUnitTree unit;
        private final Trees trees;
        private String method = "";
        private boolean makes = true;

        Shape(CompilationUnitTree unit, Trees trees) {
            this.unit = unit;
            this.trees = trees;
        }

        @Override
        public Void visitMethod(MethodTree tree, Void nothing) {
            String outer = method;
            boolean outerMakes = makes;
            method = nameOf(trees.getElement(getCurrentPath()));
            makes = tree.getReturnType() == null;
            if (method.startsWith("Tallow.") && tree.getModifiers().toString().contains("public") && !makes) {
                face.add(method);
            }
            check.same(method + " has few parameters", tree.getParameters().size() <= MOST_PARAMETERS ? 1 : 0, 1);
            check.same(method + " is short", linesOf(tree) <= MOST_LINES ? 1 : 0, 1);
            super.visitMethod(tree, nothing);
            method = outer;
            makes = outerMakes;
            return null;
        }

        @Override
        public Void visitMethodInvocation(MethodInvocationTree tree, Void nothing) {
            Element called = trees.getElement(getCurrentPath());
            check.same("the method that is called in " + method + " is known", called == null ? 0 : 1, 1);
            calls.computeIfAbsent(method, name -> new TreeSet<>()).add(nameOf(called));
            return super.visitMethodInvocation(tree, nothing);
        }

        @Override
        public Void visitClass(ClassTree tree, Void nothing) {
            check.same(tree.getSimpleName() + " has a name", tree.getSimpleName().length() == 0 ? 1 : 0, 0);
            return super.visitClass(tree, nothing);
        }

        @Override
        public Void visitArrayAccess(ArrayAccessTree tree, Void nothing) {
            check.same("an index in " + method, INDEXED.contains(method) ? 1 : 0, 1);
            return super.visitArrayAccess(tree, nothing);
        }

        @Override
        public Void visitBinary(BinaryTree tree, Void nothing) {
            boolean divides = tree.getKind() == Tree.Kind.DIVIDE || tree.getKind() == Tree.Kind.REMAINDER;
            if (divides && !isFixed(tree.getRightOperand())) {
                check.same("a divisor in " + method, DIVIDING.contains(method) ? 1 : 0, 1);
            }
            return super.visitBinary(tree, nothing);
        }

        /** A number that is written out, or a constant: none of the program's is 0 where it divides. */
        private static boolean isFixed(Tree divisor) {
            return divisor instanceof LiteralTree number ? !number.getValue().equals(0)
                : divisor.toString().equals("LETTERS");
        }

        @Override
        public Void visitTypeCast(TypeCastTree tree, Void nothing) {
            check.same("a cast in " + method, tree.getType().toString(), "double");
            return super.visitTypeCast(tree, nothing);
        }

        @Override
        public Void visitNewClass(NewClassTree tree, Void nothing) {
            boolean isThrown = getCurrentPath().getParentPath().getLeaf() instanceof ThrowTree;
            check.same("an object that " + method + " makes", makes || isThrown ? 1 : 0, 1);
            return super.visitNewClass(tree, nothing);
        }

        @Override
        public Void visitNewArray(NewArrayTree tree, Void nothing) {
            check.same("an array that " + method + " makes", makes ? 1 : 0, 1);
            return super.visitNewArray(tree, nothing);
        }

        @Override
        public Void visitThrow(ThrowTree tree, Void nothing) {
            check.same("a constructor that throws: " + method, makes ? 1 : 0, 0);
            return super.visitThrow(tree, nothing);
        }

        private long linesOf(Tree tree) {
            LineMap lines = unit.getLineMap();
            long first = lines.getLineNumber(trees.getSourcePositions().getStartPosition(unit, tree));
            return lines.getLineNumber(trees.getSourcePositions().getEndPosition(unit, tree)) - first + 1;
        }

        private static String nameOf(Element element) {
            return element == null ? "" : element.getEnclosingElement().getSimpleName() + "." + element.getSimpleName();
        }
    }
}
