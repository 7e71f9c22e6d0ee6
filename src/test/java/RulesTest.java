import com.sun.source.tree.ArrayAccessTree;
import com.sun.source.tree.AssignmentTree;
import com.sun.source.tree.BinaryTree;
import com.sun.source.tree.ClassTree;
import com.sun.source.tree.CompilationUnitTree;
import com.sun.source.tree.CompoundAssignmentTree;
import com.sun.source.tree.DoWhileLoopTree;
import com.sun.source.tree.EnhancedForLoopTree;
import com.sun.source.tree.ExpressionTree;
import com.sun.source.tree.ForLoopTree;
import com.sun.source.tree.LiteralTree;
import com.sun.source.tree.MethodInvocationTree;
import com.sun.source.tree.MethodTree;
import com.sun.source.tree.NewClassTree;
import com.sun.source.tree.ThrowTree;
import com.sun.source.tree.Tree;
import com.sun.source.tree.TypeCastTree;
import com.sun.source.tree.UnaryTree;
import com.sun.source.tree.VariableTree;
import com.sun.source.tree.WhileLoopTree;
import com.sun.source.util.JavacTask;
import com.sun.source.util.TreePathScanner;
import com.sun.source.util.TreeScanner;
import com.sun.source.util.Trees;
import java.io.File;
import java.util.HashMap;
import java.util.HashSet;
import java.util.List;
import java.util.Map;
import java.util.Set;
import java.util.TreeSet;
import javax.lang.model.element.Element;
import javax.lang.model.element.Modifier;
import javax.lang.model.element.TypeElement;
import javax.lang.model.element.VariableElement;
import javax.tools.JavaCompiler;
import javax.tools.StandardJavaFileManager;
import javax.tools.ToolProvider;

/**
 * The rules of LANGUAGE.md that the compiler's own reading of the class shows, each told by its number. What words and
 * the compiled class show stands in FaceTest.
 */
public final class RulesTest {
    private static final int MOST_LINES = 60;
    private static final int MOST_DEEP = 8;
    private static final Set<String> LIBRARY = Set.of("Arrays.fill(long[],long)", "Array.clone()", "Math.abs(int)",
        "Math.max(int,int)", "Math.min(int,int)", "Math.min(long,long)", "Math.floorDiv(long,long)",
        "IllegalArgumentException.<init>()", "IndexOutOfBoundsException.<init>()", "NoSuchElementException.<init>()",
        "UnsupportedOperationException.<init>()", "Object.<init>()");
    private static final Set<String> EXCEPTIONS = Set.of("IllegalStateException", "IllegalArgumentException",
        "IndexOutOfBoundsException", "ArithmeticException", "UnsupportedOperationException", "NoSuchElementException",
        "RuntimeException");

    private static int wrong = 0;
    private static int looks = 0;

    private static void need(String what, boolean holds) {
        looks++;
        if (!holds) {
            wrong++;
            System.out.println("not so: " + what);
        }
    }

    public static void main(String[] args) throws Exception {
        JavaCompiler compiler = ToolProvider.getSystemJavaCompiler();
        StandardJavaFileManager files = compiler.getStandardFileManager(null, null, null);
        JavacTask task = (JavacTask) compiler.getTask(null, files, null, List.of("-proc:none"), null,
            files.getJavaFileObjects(new File("src/main/java/GridStore.java")));
        Iterable<? extends CompilationUnitTree> units = task.parse();
        task.analyze();
        for (CompilationUnitTree unit : units) {
            Reader reader = new Reader(unit, Trees.instance(task));
            reader.scan(unit, null);
            reader.needShallowCalls();
        }
        need("there was something to look at", looks > 500);
        System.out.println("RulesTest: " + looks + " looks, " + wrong + " wrong");
        if (wrong != 0) {
            System.exit(1);
        }
    }

    private static final class Reader extends TreePathScanner<Void, Void> {
        private final CompilationUnitTree unit;
        private final Trees trees;
        private final Map<Element, Set<Element>> calls = new HashMap<>();
        private Element method = null;
        private MethodTree methodTree = null;

        Reader(CompilationUnitTree unit, Trees trees) {
            this.unit = unit;
            this.trees = trees;
        }

        private long lineOf(Tree tree) {
            return unit.getLineMap().getLineNumber(trees.getSourcePositions().getStartPosition(unit, tree));
        }

        private long lastLineOf(Tree tree) {
            return unit.getLineMap().getLineNumber(trees.getSourcePositions().getEndPosition(unit, tree));
        }

        private String at(Tree tree) {
            return " (line " + lineOf(tree) + ": " + tree.toString().trim().split("\n")[0] + ")";
        }

        @Override
        public Void visitClass(ClassTree tree, Void none) {
            Element element = trees.getElement(getCurrentPath());
            boolean inside = element.getEnclosingElement() instanceof TypeElement;
            need("2: classes stand in the one class" + at(tree), inside || tree.getSimpleName().contentEquals("GridStore"));
            need("2: classes inside are static" + at(tree), !inside || element.getModifiers().contains(Modifier.STATIC));
            return super.visitClass(tree, none);
        }

        @Override
        public Void visitVariable(VariableTree tree, Void none) {
            Element element = trees.getElement(getCurrentPath());
            if (element.getModifiers().contains(Modifier.STATIC)) {
                need("5: static fields are constants" + at(tree),
                    ((VariableElement) element).getConstantValue() != null);
            }
            String type = element.asType().toString().replaceAll("GridStore\\.\\w+|GridStore", "own");
            need("3: a type that is listed, not " + type + at(tree),
                type.matches("(int|long|boolean|short|byte|char|own)(\\[\\])?"));
            return super.visitVariable(tree, none);
        }

        @Override
        public Void visitMethod(MethodTree tree, Void none) {
            method = trees.getElement(getCurrentPath());
            methodTree = tree;
            calls.put(method, new HashSet<>());
            need("11: short" + at(tree), lastLineOf(tree) - lineOf(tree) < MOST_LINES);
            super.visitMethod(tree, none);
            method = null;
            methodTree = null;
            return null;
        }

        @Override
        public Void visitMethodInvocation(MethodInvocationTree tree, Void none) {
            called(trees.getElement(getCurrentPath()), tree);
            return super.visitMethodInvocation(tree, none);
        }

        @Override
        public Void visitNewClass(NewClassTree tree, Void none) {
            called(trees.getElement(getCurrentPath()), tree);
            need("2: no class without a name" + at(tree), tree.getClassBody() == null);
            return super.visitNewClass(tree, none);
        }

        private void called(Element one, Tree tree) {
            String name = one.getEnclosingElement().getSimpleName() + "." + one.toString();
            name = one.getSimpleName().contentEquals("<init>")
                ? one.getEnclosingElement().getSimpleName() + ".<init>()" : name;
            boolean own = one.getEnclosingElement().toString().startsWith("GridStore");
            need("4: a call that is listed, not " + name + at(tree), own || LIBRARY.contains(name));
            if (own && method != null) {
                calls.get(method).add(one);
            }
        }

        @Override
        public Void visitThrow(ThrowTree tree, Void none) {
            boolean made = tree.getExpression() instanceof NewClassTree;
            need("6: what is thrown is new" + at(tree), made);
            if (made) {
                NewClassTree thrown = (NewClassTree) tree.getExpression();
                need("6: an exception that is listed" + at(tree), EXCEPTIONS.contains(thrown.getIdentifier().toString()));
                for (ExpressionTree text : thrown.getArguments()) {
                    need("6: with a written text" + at(tree), text instanceof LiteralTree);
                }
            }
            need("6: not in a constructor" + at(tree), !method.getSimpleName().contentEquals("<init>"));
            return super.visitThrow(tree, none);
        }

        @Override
        public Void visitTypeCast(TypeCastTree tree, Void none) {
            need("7: casts are of numbers" + at(tree),
                trees.getTypeMirror(getCurrentPath()).getKind().isPrimitive());
            return super.visitTypeCast(tree, none);
        }

        @Override
        public Void visitWhileLoop(WhileLoopTree tree, Void none) {
            need("9: this program's loops count" + at(tree), false);
            return super.visitWhileLoop(tree, none);
        }

        @Override
        public Void visitDoWhileLoop(DoWhileLoopTree tree, Void none) {
            need("9: this program's loops count" + at(tree), false);
            return super.visitDoWhileLoop(tree, none);
        }

        @Override
        public Void visitEnhancedForLoop(EnhancedForLoopTree tree, Void none) {
            need("9: this program's loops count" + at(tree), false);
            return super.visitEnhancedForLoop(tree, none);
        }

        @Override
        public Void visitForLoop(ForLoopTree tree, Void none) {
            String head = tree.toString().split("\n")[0];
            need("9: a counter goes up to a bound" + at(tree),
                head.matches("for \\(int (\\w+) = [^;]+; \\1 <=? [^;]+; \\1\\+\\+\\) \\{"));
            String counter = ((VariableTree) tree.getInitializer().get(0)).getName().toString();
            Set<String> bound = new HashSet<>(List.of(tree.getCondition().toString().split("\\W+")));
            bound.add(counter);
            for (String name : writtenIn(tree.getStatement())) {
                need("9: a loop leaves its counter and bound alone: " + name + at(tree), !bound.contains(name));
            }
            return super.visitForLoop(tree, none);
        }

        /** The last names of all that is written to in a loop itself. */
        private static Set<String> writtenIn(Tree loop) {
            Set<String> names = new TreeSet<>();
            new TreeScanner<Void, Void>() {
                private void add(ExpressionTree to) {
                    names.add(to.toString().replaceAll("\\[.*", "").replaceAll(".*\\.", ""));
                }

                @Override
                public Void visitAssignment(AssignmentTree tree, Void none) {
                    add(tree.getVariable());
                    return super.visitAssignment(tree, none);
                }

                @Override
                public Void visitCompoundAssignment(CompoundAssignmentTree tree, Void none) {
                    add(tree.getVariable());
                    return super.visitCompoundAssignment(tree, none);
                }

                @Override
                public Void visitUnary(UnaryTree tree, Void none) {
                    if (tree.getKind().toString().endsWith("CREMENT")) {
                        add(tree.getExpression());
                    }
                    return super.visitUnary(tree, none);
                }
            }.scan(loop, null);
            return names;
        }

        @Override
        public Void visitArrayAccess(ArrayAccessTree tree, Void none) {
            String array = tree.getExpression().toString();
            String index = tree.getIndex().toString();
            String text = methodTree == null ? "" : methodTree.getBody().toString();
            need("7: the index is held to the length" + at(tree), text.contains(index + " < " + array + ".length")
                || text.contains(index + " >= " + array + ".length"));
            need("7: the index is held to 0" + at(tree), text.contains(index + " >= 0") || text.contains(index + " < 0")
                || text.contains("int " + index + " = 0;")
                || index.contains(" - ") && text.contains(index.replace(" - ", " >= ")));
            return super.visitArrayAccess(tree, none);
        }

        @Override
        public Void visitBinary(BinaryTree tree, Void none) {
            if (tree.getKind() == Tree.Kind.DIVIDE || tree.getKind() == Tree.Kind.REMAINDER) {
                String divisor = tree.getRightOperand().toString();
                String text = methodTree == null ? "" : methodTree.getBody().toString();
                need("7: the divisor is a constant, or held to the least one" + at(tree),
                    divisor.matches("[A-Z_]+") || text.contains(divisor + " < LEAST_COARSE"));
            }
            return super.visitBinary(tree, none);
        }

        /** What calls itself, on whatever way, goes deeper than any bound. */
        void needShallowCalls() {
            for (Element one : calls.keySet()) {
                need("8 and 11: " + one + " goes at most eight calls deep", !deeperThan(MOST_DEEP, one));
            }
        }

        private boolean deeperThan(int bound, Element one) {
            if (bound == 0) {
                return true;
            }
            for (Element next : calls.getOrDefault(one, Set.of())) {
                if (deeperThan(bound - 1, next)) {
                    return true;
                }
            }
            return false;
        }
    }
}
