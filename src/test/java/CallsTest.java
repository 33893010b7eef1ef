import com.sun.source.tree.ArrayAccessTree;
import com.sun.source.tree.AssignmentTree;
import com.sun.source.tree.CompilationUnitTree;
import com.sun.source.tree.CompoundAssignmentTree;
import com.sun.source.tree.ExpressionTree;
import com.sun.source.tree.MethodInvocationTree;
import com.sun.source.tree.MethodTree;
import com.sun.source.tree.NewClassTree;
import com.sun.source.tree.Tree;
import com.sun.source.tree.UnaryTree;
import com.sun.source.tree.VariableTree;
import com.sun.source.util.JavacTask;
import com.sun.source.util.TreePath;
import com.sun.source.util.TreePathScanner;
import com.sun.source.util.Trees;
import java.nio.file.Path;
import java.util.HashMap;
import java.util.List;
import java.util.Map;
import java.util.Set;
import java.util.TreeSet;
import javax.lang.model.element.Element;
import javax.lang.model.element.ElementKind;
import javax.lang.model.element.Modifier;
import javax.lang.model.element.TypeElement;
import javax.lang.model.type.TypeMirror;
import javax.tools.JavaCompiler;
import javax.tools.StandardJavaFileManager;
import javax.tools.ToolProvider;

/**
 * Rules of LANGUAGE.md that need to know what a name stands for, and so are asked of the compiler: the library (4), the
 * types (3), rows of constants that never change (5) and how deep calls go (11).
 */
public final class CallsTest {
    private static final Path SOURCE = Path.of("src/main/java/CellarPump.java");
    private static final int DEEPEST = 8;
    private static final String LIBRARY = "java\\.lang\\.Object\\.<init>|java\\.lang\\.System\\.arraycopy"
        + "|java\\.util\\.Arrays\\.(copyOf|copyOfRange|fill)"
        + "|java\\.lang\\.String\\.(<init>|length|charAt|isEmpty|equals|indexOf|substring|toCharArray)"
        + "|java\\.lang\\.StringBuilder\\.(<init>|append|(set|delete)?[cC]harAt|(setL|l)ength|reverse|toString)"
        + "|java\\.util\\.(Array)?List\\.(<init>|add|get|set|remove|size|isEmpty|clear|of)"
        + "|java\\.lang\\.(Integer|Long|Math)\\.(?!random$|\\w*Exact$|<init>)\\w+";
    private static final String TYPES = "(boolean|byte|short|char|int|long|float|double)(\\[\\]){0,2}"
        + "|java\\.lang\\.(String|StringBuilder|Integer)|java\\.util\\.(Array)?List<.*>|CellarPump\\b[^\\[\\]]*(\\[\\])?";

    private static final Map<String, Set<String>> CALLED = new HashMap<>();

    public static void main(String[] args) throws Exception {
        JavaCompiler compiler = ToolProvider.getSystemJavaCompiler();
        try (StandardJavaFileManager files = compiler.getStandardFileManager(null, null, null)) {
            JavacTask task = (JavacTask) compiler.getTask(null, files, null, List.of("-proc:none"), null,
                files.getJavaFileObjects(SOURCE));
            Iterable<? extends CompilationUnitTree> units = task.parse();
            task.analyze();
            Looker looker = new Looker(Trees.instance(task));
            for (CompilationUnitTree unit : units) {
                looker.scan(unit, null);
            }
        }
        Check.holds("methods are seen: " + CALLED.size(), CALLED.size() > 47);
        for (String method : CALLED.keySet()) {
            int deep = depth(method, new TreeSet<>());
            Check.holds(method + " goes " + deep + " deep", deep <= DEEPEST);
        }
        Check.finish();
    }

    /** How many calls stand open at once, its own one too; those of one that is open already (recursion) don't count. */
    private static int depth(String method, Set<String> open) {
        int most = 0;
        open.add(method);
        for (String called : CALLED.getOrDefault(method, Set.of())) {
            if (!open.contains(called)) {
                most = Math.max(most, depth(called, open));
            }
        }
        open.remove(method);
        return most + 1;
    }

    private static final class Looker extends TreePathScanner<Void, Void> {
        private final Trees trees;
        private String method = "";

        Looker(Trees trees) {
            this.trees = trees;
        }

        private Element meant(Tree tree) {
            return trees.getElement(new TreePath(getCurrentPath(), tree));
        }

        private static String nameOf(Element element) {
            return ((TypeElement) element.getEnclosingElement()).getQualifiedName() + "." + element;
        }

        @Override
        public Void visitMethod(MethodTree tree, Void none) {
            String outside = method;
            method = nameOf(trees.getElement(getCurrentPath()));
            CALLED.putIfAbsent(method, new TreeSet<>());
            super.visitMethod(tree, none);
            method = outside;
            return null;
        }

        @Override
        public Void visitMethodInvocation(MethodInvocationTree tree, Void none) {
            call(trees.getElement(getCurrentPath()));
            return super.visitMethodInvocation(tree, none);
        }

        @Override
        public Void visitNewClass(NewClassTree tree, Void none) {
            call(trees.getElement(getCurrentPath()));
            return super.visitNewClass(tree, none);
        }

        private void call(Element called) {
            String owner = ((TypeElement) called.getEnclosingElement()).getQualifiedName().toString();
            String name = owner + "." + called.getSimpleName();
            if (owner.startsWith("CellarPump")) {
                CALLED.computeIfAbsent(method, m -> new TreeSet<>()).add(nameOf(called));
            } else {
                Check.holds(name + " is no part of the library", name.matches(LIBRARY));
            }
        }

        @Override
        public Void visitVariable(VariableTree tree, Void none) {
            TypeMirror type = trees.getElement(getCurrentPath()).asType();
            Check.holds(tree.getName() + " is of a type that is used: " + type, type.toString().matches(TYPES));
            return super.visitVariable(tree, none);
        }

        @Override
        public Void visitAssignment(AssignmentTree tree, Void none) {
            change(tree.getVariable());
            return super.visitAssignment(tree, none);
        }

        @Override
        public Void visitCompoundAssignment(CompoundAssignmentTree tree, Void none) {
            change(tree.getVariable());
            return super.visitCompoundAssignment(tree, none);
        }

        @Override
        public Void visitUnary(UnaryTree tree, Void none) {
            if (tree.getKind().name().endsWith("CREMENT")) {
                change(tree.getExpression());
            }
            return super.visitUnary(tree, none);
        }

        private void change(ExpressionTree changed) {
            if (changed instanceof ArrayAccessTree place) {
                Element row = meant(place.getExpression());
                boolean isConstant = row != null && row.getKind() == ElementKind.FIELD
                    && row.getModifiers().contains(Modifier.STATIC);
                Check.holds(changed + " is a constant's", !isConstant);
            }
        }
    }
}
