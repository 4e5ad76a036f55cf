import com.sun.source.tree.CatchTree;
import com.sun.source.tree.CompilationUnitTree;
import com.sun.source.tree.MethodInvocationTree;
import com.sun.source.tree.MethodTree;
import com.sun.source.tree.NewClassTree;
import com.sun.source.tree.TypeCastTree;
import com.sun.source.util.JavacTask;
import com.sun.source.util.TreePathScanner;
import com.sun.source.util.Trees;
import java.io.IOException;
import java.nio.file.Path;
import java.util.ArrayList;
import java.util.HashMap;
import java.util.List;
import java.util.Map;
import java.util.Set;
import java.util.TreeMap;
import java.util.TreeSet;
import javax.lang.model.element.Element;
import javax.tools.JavaCompiler;
import javax.tools.StandardJavaFileManager;
import javax.tools.ToolProvider;

/**
 * What calls what, as javac reads it: no recursion (LANGUAGE.md, rule 8), no more than eight calls deep
 * (rule 11), no library but what rule 4 lists, nothing caught and no cast of objects (rules 6 and 7).
 */
public final class CallsTest {
    private static final int DEEPEST = 8;
    private static final Set<String> LIBRARY = Set.of("java.lang.Math.abs(int)", "java.lang.Math.max(int,int)",
            "java.lang.Math.min(int,int)", "java.lang.Integer.bitCount(int)",
            "java.lang.System.arraycopy(java.lang.Object,int,java.lang.Object,int,int)",
            "java.lang.IndexOutOfBoundsException.IndexOutOfBoundsException(java.lang.String)",
            "java.lang.IllegalArgumentException.IllegalArgumentException(java.lang.String)",
            "java.lang.IllegalStateException.IllegalStateException(java.lang.String)");

    private static final Map<String, Set<String>> CALLS = new TreeMap<>();
    private static final Map<String, Integer> DEPTHS = new HashMap<>();

    public static void main(String[] args) throws IOException {
        read(Path.of("src", "main", "java", "CarTangos.java"));
        Check.same("work() calls what it calls",
                CALLS.getOrDefault("CarTangos.work()", Set.of()).contains("CarTangos.tryPart(int)"), true);
        for (String method : CALLS.keySet()) {
            int depth = depthFrom(method, new ArrayList<>());
            Check.same("no deeper than " + DEEPEST + ": " + method + " goes " + depth, depth <= DEEPEST, true);
        }
        Check.end("CallsTest");
    }

    private static void read(Path file) throws IOException {
        JavaCompiler compiler = ToolProvider.getSystemJavaCompiler();
        try (StandardJavaFileManager files = compiler.getStandardFileManager(null, null, null)) {
            JavacTask task = (JavacTask) compiler.getTask(null, files, null, List.of("-proc:none"), null,
                    files.getJavaFileObjects(file));
            for (CompilationUnitTree unit : task.parse()) {
                task.analyze();
                new Reader(Trees.instance(task)).scan(unit, null);
            }
        }
    }

    private static int depthFrom(String method, List<String> open) {
        if (open.contains(method)) {
            Check.same("no recursion", open + " " + method, "");
            return DEEPEST + 1;
        }
        if (!DEPTHS.containsKey(method)) {
            List<String> within = new ArrayList<>(open);
            within.add(method);
            int deepest = 0;
            for (String called : CALLS.getOrDefault(method, Set.of())) {
                deepest = Math.max(deepest, depthFrom(called, within));
            }
            DEPTHS.put(method, deepest + 1);
        }
        return DEPTHS.get(method);
    }

    /** Notes the calls of each method. */
    private static final class Reader extends TreePathScanner<Void, Void> {
        private final Trees trees;
        private String inMethod = "outside all methods";

        Reader(Trees trees) {
            this.trees = trees;
        }

        @Override
        public Void visitMethod(MethodTree tree, Void none) {
            String before = inMethod;
            inMethod = nameOf(trees.getElement(getCurrentPath()));
            CALLS.putIfAbsent(inMethod, new TreeSet<>());
            super.visitMethod(tree, none);
            inMethod = before;
            return null;
        }

        @Override
        public Void visitMethodInvocation(MethodInvocationTree tree, Void none) {
            add(trees.getElement(getCurrentPath()));
            return super.visitMethodInvocation(tree, none);
        }

        @Override
        public Void visitNewClass(NewClassTree tree, Void none) {
            add(trees.getElement(getCurrentPath()));
            return super.visitNewClass(tree, none);
        }

        @Override
        public Void visitCatch(CatchTree tree, Void none) {
            Check.same("nothing is caught in " + inMethod, tree, "");
            return super.visitCatch(tree, none);
        }

        @Override
        public Void visitTypeCast(TypeCastTree tree, Void none) {
            Check.same("casts of numbers alone in " + inMethod + ": " + tree,
                    tree.getType().toString().matches("int|long|double|char"), true);
            return super.visitTypeCast(tree, none);
        }

        private void add(Element called) {
            String name = nameOf(called);
            if (name.startsWith("CarTangos")) {
                CALLS.computeIfAbsent(inMethod, m -> new TreeSet<>()).add(name);
            } else if (!name.equals("java.lang.Object.Object()")) {
                Check.same("in the library: " + inMethod + " calls " + name, LIBRARY.contains(name), true);
            }
        }

        private static String nameOf(Element method) {
            return method == null ? "a call that javac does not know" : method.getEnclosingElement() + "." + method;
        }
    }
}
