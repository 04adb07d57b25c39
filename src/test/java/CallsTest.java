import com.sun.source.tree.AssignmentTree;
import com.sun.source.tree.BinaryTree;
import com.sun.source.tree.ClassTree;
import com.sun.source.tree.CompilationUnitTree;
import com.sun.source.tree.CompoundAssignmentTree;
import com.sun.source.tree.MethodInvocationTree;
import com.sun.source.tree.MethodTree;
import com.sun.source.tree.NewClassTree;
import com.sun.source.tree.Tree;
import com.sun.source.tree.VariableTree;
import com.sun.source.util.JavacTask;
import com.sun.source.util.TreePath;
import com.sun.source.util.TreePathScanner;
import com.sun.source.util.Trees;
import java.io.IOException;
import java.nio.file.Path;
import java.util.HashMap;
import java.util.HashSet;
import java.util.LinkedHashMap;
import java.util.LinkedHashSet;
import java.util.Map;
import java.util.Set;
import javax.lang.model.element.Element;
import javax.lang.model.element.ExecutableElement;
import javax.lang.model.element.Modifier;
import javax.lang.model.element.TypeElement;
import javax.tools.JavaCompiler;
import javax.tools.StandardJavaFileManager;
import javax.tools.ToolProvider;

/** The rules of LANGUAGE.md that ask who calls whom, and with what types, as the compiler sees it. */
public final class CallsTest {
    private static final Path SOURCE = Path.of("src/main/java/OldNeighbours.java");
    private static final int DEEPEST = 8;
    private static final int MOST_CLASSES = 13;
    private static final Set<String> LIBRARY = Set.of(
        "java.util.Arrays.fill", "java.lang.Math.min", "java.lang.Math.max", "java.lang.Math.floorMod",
        "java.lang.Long.bitCount", "java.lang.Integer.bitCount", "java.lang.System.arraycopy",
        "java.lang.String.length", "java.lang.String.charAt", "java.lang.String.indexOf");
    private static final Set<String> TYPES = Set.of("int", "long", "boolean", "int[]", "long[]", "java.lang.String");

    private final Map<ExecutableElement, Set<ExecutableElement>> calls = new LinkedHashMap<>();
    private final Map<ExecutableElement, Set<ExecutableElement>> reached = new HashMap<>();
    private int classes;
    private int wrong;

    private CallsTest() {
    }

    public static void main(String[] args) throws IOException {
        CallsTest test = new CallsTest();
        test.read();
        test.recursion();
        test.depth();
        test.check(test.classes <= MOST_CLASSES, "11: " + test.classes + " classes");
        System.out.println("CallsTest: " + test.calls.size() + " methods, wrong: " + test.wrong);
        System.exit(test.wrong == 0 && test.calls.size() > 100 ? 0 : 1);
    }

    private void check(boolean right, String rule) {
        if (!right) {
            wrong++;
            System.out.println("CallsTest: " + rule);
        }
    }

    private void read() throws IOException {
        JavaCompiler compiler = ToolProvider.getSystemJavaCompiler();
        try (StandardJavaFileManager files = compiler.getStandardFileManager(null, null, null)) {
            JavacTask task = (JavacTask) compiler.getTask(null, files, null, null, null, files.getJavaFileObjects(SOURCE));
            Iterable<? extends CompilationUnitTree> units = task.parse();
            task.analyze();
            for (CompilationUnitTree unit : units) {
                new Scanner(Trees.instance(task)).scan(unit, null);
            }
        }
    }

    /** Rule 8: a method that calls itself is private and static, methods that call one another are private. */
    private void recursion() {
        for (ExecutableElement method : calls.keySet()) {
            boolean itself = calls.get(method).contains(method);
            check(!itself || method.getModifiers().contains(Modifier.STATIC), "8: " + told(method) + " calls itself and is not static");
            boolean isPrivate = method.getModifiers().contains(Modifier.PRIVATE);
            check(isPrivate || !reaches(method, method), "8: " + told(method) + " is called again and is not private");
        }
    }

    /** Rule 11: of methods that call one another only the way in is counted. */
    private void depth() {
        for (ExecutableElement method : calls.keySet()) {
            if (method.getModifiers().contains(Modifier.PUBLIC)) {
                int depth = depthOf(method);
                check(depth <= DEEPEST, "11: " + told(method) + " goes " + depth + " deep");
            }
        }
    }

    private int depthOf(ExecutableElement method) {
        int deepest = 0;
        for (ExecutableElement called : reachedFrom(method)) {
            boolean again = reaches(called, method);
            if (!again && directly(method, called)) {
                deepest = Math.max(deepest, depthOf(called));
            }
        }
        return deepest + 1;
    }

    /** Called by the method, or by one that calls it and is called by it. */
    private boolean directly(ExecutableElement method, ExecutableElement called) {
        for (ExecutableElement caller : calls.keySet()) {
            boolean together = caller.equals(method) || reaches(caller, method) && reaches(method, caller);
            if (together && calls.get(caller).contains(called)) {
                return true;
            }
        }
        return false;
    }

    private boolean reaches(ExecutableElement from, ExecutableElement to) {
        return reachedFrom(from).contains(to);
    }

    private Set<ExecutableElement> reachedFrom(ExecutableElement method) {
        Set<ExecutableElement> known = reached.get(method);
        if (known == null) {
            known = new HashSet<>();
            walk(method, known);
            reached.put(method, known);
        }
        return known;
    }

    private void walk(ExecutableElement method, Set<ExecutableElement> seen) {
        for (ExecutableElement called : calls.getOrDefault(method, Set.of())) {
            if (seen.add(called)) {
                walk(called, seen);
            }
        }
    }

    private static String told(ExecutableElement method) {
        return ((TypeElement) method.getEnclosingElement()).getQualifiedName() + "." + method.getSimpleName();
    }

    private final class Scanner extends TreePathScanner<Void, Void> {
        private final Trees trees;
        private ExecutableElement inside;

        Scanner(Trees trees) {
            this.trees = trees;
        }

        private boolean isOwn(Element type) {
            return type.toString().startsWith("OldNeighbours");
        }

        private String typeOf(Tree tree) {
            return String.valueOf(trees.getTypeMirror(new TreePath(getCurrentPath(), tree)));
        }

        @Override
        public Void visitClass(ClassTree tree, Void nothing) {
            classes++;
            TreePath parent = getCurrentPath().getParentPath();
            boolean member = parent.getLeaf() instanceof ClassTree || parent.getLeaf() instanceof CompilationUnitTree;
            check(member, "2: a class inside a method: " + tree.getSimpleName());
            return super.visitClass(tree, nothing);
        }

        @Override
        public Void visitMethod(MethodTree tree, Void nothing) {
            inside = (ExecutableElement) trees.getElement(getCurrentPath());
            calls.put(inside, new LinkedHashSet<>());
            super.visitMethod(tree, nothing);
            inside = null;
            return null;
        }

        @Override
        public Void visitMethodInvocation(MethodInvocationTree tree, Void nothing) {
            noteCall((ExecutableElement) trees.getElement(getCurrentPath()));
            return super.visitMethodInvocation(tree, nothing);
        }

        @Override
        public Void visitNewClass(NewClassTree tree, Void nothing) {
            noteCall((ExecutableElement) trees.getElement(getCurrentPath()));
            return super.visitNewClass(tree, nothing);
        }

        private void noteCall(ExecutableElement called) {
            if (isOwn(called.getEnclosingElement())) {
                if (inside != null) {
                    calls.get(inside).add(called);
                }
            } else {
                String name = told(called);
                check(LIBRARY.contains(name) || name.equals("java.lang.Object.<init>"), "4: " + name);
            }
        }

        @Override
        public Void visitVariable(VariableTree tree, Void nothing) {
            String type = typeOf(tree);
            check(TYPES.contains(type) || type.startsWith("OldNeighbours"), "3: " + type + " " + tree.getName());
            return super.visitVariable(tree, nothing);
        }

        @Override
        public Void visitBinary(BinaryTree tree, Void nothing) {
            boolean texts = typeOf(tree.getLeftOperand()).equals("java.lang.String")
                || typeOf(tree.getRightOperand()).equals("java.lang.String");
            check(!texts, "6, 10: texts joined or compared: " + tree);
            return super.visitBinary(tree, nothing);
        }

        @Override
        public Void visitCompoundAssignment(CompoundAssignmentTree tree, Void nothing) {
            String whole = typeOf(tree.getVariable());
            check(whole.equals("int") || whole.equals("long"), "10: " + tree);
            check(whole.equals(typeOf(tree.getExpression())) || whole.equals("long"), "3: a hidden cast: " + tree);
            return super.visitCompoundAssignment(tree, nothing);
        }

        @Override
        public Void visitAssignment(AssignmentTree tree, Void nothing) {
            check(!typeOf(tree.getVariable()).equals("java.lang.String"), "5: a text is set: " + tree);
            return super.visitAssignment(tree, nothing);
        }
    }
}
