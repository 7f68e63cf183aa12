import com.sun.source.tree.CompilationUnitTree;
import com.sun.source.tree.MethodInvocationTree;
import com.sun.source.tree.MethodTree;
import com.sun.source.tree.NewClassTree;
import com.sun.source.util.JavacTask;
import com.sun.source.util.TreePath;
import com.sun.source.util.TreePathScanner;
import com.sun.source.util.Trees;
import java.io.IOException;
import java.nio.file.Path;
import java.util.HashSet;
import java.util.LinkedHashMap;
import java.util.LinkedHashSet;
import java.util.List;
import java.util.Map;
import java.util.Set;
import javax.lang.model.element.Element;
import javax.lang.model.element.Modifier;
import javax.tools.JavaCompiler;
import javax.tools.StandardJavaFileManager;
import javax.tools.ToolProvider;

/** Which methods call which: LANGUAGE.md's rule 8, of recursion, and 11, of how deep calls go. */
public final class CallsTest {
    static final int DEEPEST = 8;
    /** By method or constructor of the class, those of it that it calls. */
    static final Map<Element, Set<Element>> calls = new LinkedHashMap<>();
    static int wrong = 0;

    static void rule(boolean kept, String what) {
        if (!kept) {
            wrong++;
            System.out.println("not kept: " + what);
        }
    }

    static String name(Element method) {
        return method.getEnclosingElement().getSimpleName() + "." + method;
    }

    // ---- what the compiler knows

    static final class Finder extends TreePathScanner<Void, Element> {
        final Trees trees;

        Finder(Trees trees) {
            this.trees = trees;
        }

        @Override
        public Void visitMethod(MethodTree method, Element outside) {
            Element self = trees.getElement(getCurrentPath());
            calls.put(self, new LinkedHashSet<>());
            return super.visitMethod(method, self);
        }

        @Override
        public Void visitMethodInvocation(MethodInvocationTree call, Element in) {
            keep(in, new TreePath(getCurrentPath(), call.getMethodSelect()));
            return super.visitMethodInvocation(call, in);
        }

        @Override
        public Void visitNewClass(NewClassTree call, Element in) {
            keep(in, getCurrentPath());
            return super.visitNewClass(call, in);
        }

        void keep(Element in, TreePath called) {
            if (in != null) {
                calls.get(in).add(trees.getElement(called));
            }
        }
    }

    static void read(Path source) throws IOException {
        JavaCompiler javac = ToolProvider.getSystemJavaCompiler();
        try (StandardJavaFileManager files = javac.getStandardFileManager(null, null, null)) {
            JavacTask task = (JavacTask) javac.getTask(null, files, null, List.of("-proc:none"), null,
                files.getJavaFileObjects(source));
            Iterable<? extends CompilationUnitTree> units = task.parse();
            task.analyze();
            for (CompilationUnitTree unit : units) {
                new Finder(Trees.instance(task)).scan(unit, null);
            }
        }
        for (Set<Element> called : calls.values()) {
            called.retainAll(calls.keySet());
        }
    }

    // ---- the rules

    static boolean leadsTo(Element from, Element to, Set<Element> passed) {
        for (Element called : calls.get(from)) {
            if (called.equals(to) || (passed.add(called) && leadsTo(called, to, passed))) {
                return true;
            }
        }
        return false;
    }

    static int recursions() {
        int many = 0;
        for (Element method : calls.keySet()) {
            if (leadsTo(method, method, new HashSet<>())) {
                many++;
                rule(method.getModifiers().contains(Modifier.PRIVATE), "8: " + name(method) + " calls itself and is not private");
                rule(method.toString().contains("int"), "8: " + name(method) + " carries no depth");
            }
        }
        return many;
    }

    /** How many calls stand open at once, no method twice. */
    static int deepest(Element method, Set<Element> open) {
        int deepest = 0;
        open.add(method);
        for (Element called : calls.get(method)) {
            if (!open.contains(called)) {
                deepest = Math.max(deepest, deepest(called, open));
            }
        }
        open.remove(method);
        return deepest + 1;
    }

    public static void main(String[] args) throws IOException {
        read(Path.of("src/main/java/DrunkByYear.java"));
        int deepest = 0;
        for (Element method : calls.keySet()) {
            int deep = deepest(method, new HashSet<>());
            rule(deep <= DEEPEST, "11: " + name(method) + " goes " + deep + " deep");
            deepest = Math.max(deepest, deep);
        }
        int recursions = recursions();
        // A test that found no calls would find every rule kept.
        rule(deepest > 1 && recursions > 0, "no calls were found");
        System.out.println(calls.size() + " methods, calls " + deepest + " deep, " + recursions + " call themselves"
            + (wrong == 0 ? ", as the rules ask" : ", " + wrong + " rules are not kept"));
        if (wrong != 0) System.exit(1);
    }
}
