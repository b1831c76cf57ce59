import com.sun.source.tree.CompilationUnitTree;
import com.sun.source.tree.DoWhileLoopTree;
import com.sun.source.tree.ForLoopTree;
import com.sun.source.tree.LiteralTree;
import com.sun.source.tree.MethodInvocationTree;
import com.sun.source.tree.MethodTree;
import com.sun.source.tree.NewArrayTree;
import com.sun.source.tree.NewClassTree;
import com.sun.source.tree.Tree;
import com.sun.source.tree.WhileLoopTree;
import com.sun.source.util.JavacTask;
import com.sun.source.util.TreePathScanner;
import com.sun.source.util.Trees;
import java.util.LinkedHashMap;
import java.util.LinkedHashSet;
import java.util.List;
import java.util.Map;
import java.util.Set;
import java.util.TreeSet;
import javax.lang.model.element.Element;
import javax.lang.model.element.ElementKind;
import javax.lang.model.element.Modifier;
import javax.tools.JavaCompiler;
import javax.tools.StandardJavaFileManager;
import javax.tools.ToolProvider;

/** Who calls whom in the class: how deep, which recursions there are, where things are made, how loops end. */
public final class CallsTest {
    // LANGUAGE.md, rule 11.
    private static final int DEEPEST = 8;

    private final Map<Element, Set<Element>> calls = new LinkedHashMap<>();
    private final Set<String> recursive = new TreeSet<>();

    public static void main(String[] args) throws Exception {
        new CallsTest().look();
        Check.end();
    }

    private void look() throws Exception {
        JavaCompiler compiler = ToolProvider.getSystemJavaCompiler();
        StandardJavaFileManager files = compiler.getStandardFileManager(null, null, null);
        JavacTask task = (JavacTask) compiler.getTask(null, files, null, List.of("-proc:none"), null,
            files.getJavaFileObjects("src/main/java/JellyCathedral.java"));
        Iterable<? extends CompilationUnitTree> units = task.parse();
        task.analyze();
        Trees trees = Trees.instance(task);
        for (CompilationUnitTree unit : units) {
            new Caller(trees).scan(unit, null);
        }
        Check.due("methods are seen", true, calls.size() > 100);
        for (Element e : calls.keySet()) {
            int deep = depth(e, new LinkedHashSet<>());
            Check.due("calls from " + e + " go " + deep + " deep", true, deep <= DEEPEST);
            Check.due("a face of its own", true, e.getModifiers().contains(Modifier.PUBLIC) == isFace(e));
        }
        Check.due("the only recursion is the game's: " + recursive, true, recursive.equals(Set.of("bestFrom(int,int)")));
    }

    private static boolean isFace(Element e) {
        boolean outer = e.getEnclosingElement().getSimpleName().contentEquals("JellyCathedral");
        return outer && !e.getModifiers().contains(Modifier.PRIVATE);
    }

    private int depth(Element from, Set<Element> open) {
        open.add(from);
        int most = 0;
        for (Element to : calls.getOrDefault(from, Set.of())) {
            if (open.contains(to)) {
                recursive.add(to.toString());
            } else {
                most = Math.max(most, depth(to, open));
            }
        }
        open.remove(from);
        return 1 + most;
    }

    private final class Caller extends TreePathScanner<Void, Void> {
        private final Trees trees;
        private Element within;

        Caller(Trees trees) {
            this.trees = trees;
        }

        @Override
        public Void visitMethod(MethodTree tree, Void none) {
            Element before = within;
            within = trees.getElement(getCurrentPath());
            calls.put(within, new LinkedHashSet<>());
            super.visitMethod(tree, none);
            within = before;
            return null;
        }

        @Override
        public Void visitMethodInvocation(MethodInvocationTree tree, Void none) {
            add(trees.getElement(getCurrentPath()));
            return super.visitMethodInvocation(tree, none);
        }

        @Override
        public Void visitNewClass(NewClassTree tree, Void none) {
            Check.due("made by constructors alone: " + tree, true, byConstructor());
            add(trees.getElement(getCurrentPath()));
            return super.visitNewClass(tree, none);
        }

        @Override
        public Void visitNewArray(NewArrayTree tree, Void none) {
            Check.due("made by constructors alone: " + tree, true, byConstructor());
            return super.visitNewArray(tree, none);
        }

        @Override
        public Void visitForLoop(ForLoopTree tree, Void none) {
            Check.due("a loop's end is seen: " + tree.getCondition(), true, tree.getCondition() != null);
            return super.visitForLoop(tree, none);
        }

        @Override
        public Void visitWhileLoop(WhileLoopTree tree, Void none) {
            Check.due("a loop's end is seen: " + tree.getCondition(), false, isConstant(tree.getCondition()));
            return super.visitWhileLoop(tree, none);
        }

        @Override
        public Void visitDoWhileLoop(DoWhileLoopTree tree, Void none) {
            Check.due("a loop's end is seen: " + tree.getCondition(), false, isConstant(tree.getCondition()));
            return super.visitDoWhileLoop(tree, none);
        }

        private boolean isConstant(Tree condition) {
            return condition.toString().replaceAll("[()]", "").equals("true") || condition instanceof LiteralTree;
        }

        private boolean byConstructor() {
            return within == null || within.getKind() == ElementKind.CONSTRUCTOR;
        }

        private void add(Element called) {
            if (within != null && called != null && called.getEnclosingElement().toString().startsWith("JellyCathedral")) {
                calls.get(within).add(called);
            }
        }
    }
}
