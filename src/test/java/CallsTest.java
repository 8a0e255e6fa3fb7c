import com.sun.source.tree.ClassTree;
import com.sun.source.tree.CompilationUnitTree;
import com.sun.source.tree.MethodInvocationTree;
import com.sun.source.tree.MethodTree;
import com.sun.source.tree.NewArrayTree;
import com.sun.source.tree.NewClassTree;
import com.sun.source.util.JavacTask;
import com.sun.source.util.TreePathScanner;
import com.sun.source.util.Trees;
import java.io.IOException;
import java.nio.file.Path;
import java.util.HashMap;
import java.util.List;
import java.util.Map;
import java.util.Set;
import java.util.TreeMap;
import java.util.TreeSet;
import javax.lang.model.element.Element;
import javax.tools.JavaCompiler;
import javax.tools.StandardJavaFileManager;
import javax.tools.ToolProvider;

/** LANGUAGE.md's rules 8, 11 and 12: which methods call themselves again, how deep all others go, and what is made. */
public final class CallsTest {
    private static final int DEEP = 8;
    private static final Set<String> RULES = Set.of("RuleReader.readTest", "RuleReader.readBoth", "RuleReader.readFact",
            "RuleReader.readSum", "RuleReader.readProduct", "RuleReader.readPart", "RuleReader.readPair",
            "RuleReader.readChoice");
    private static final Set<String> SEARCH = Set.of("Mover.reaches", "Mover.reachesStraight", "Mover.reachesBy",
            "Mover.reachesInto");
    private static final Set<String> SHARES = Set.of("Chooser.divide");

    private static final Map<String, Set<String>> CALLS = new TreeMap<>();

    public static void main(String[] args) throws IOException {
        scan("src/main/java/LakeMarket.java");
        Check.yes("the calls are found", CALLS.getOrDefault("LakeMarket.lowland", Set.of()).contains("Reader.readAll"));
        for (String method : CALLS.keySet()) {
            Set<String> ring = ring(method);
            boolean known = ring.isEmpty() || ring.equals(RULES) || ring.equals(SEARCH) || ring.equals(SHARES);
            Check.no(method + " calls itself again by " + ring, !known);
        }
        Map<String, Integer> depths = new HashMap<>();
        for (String method : CALLS.keySet()) {
            Check.no(method + " goes deeper than " + DEEP, depth(method, depths) > DEEP);
        }
        Check.finish();
    }

    private static void scan(String file) throws IOException {
        JavaCompiler javac = ToolProvider.getSystemJavaCompiler();
        try (StandardJavaFileManager files = javac.getStandardFileManager(null, null, null)) {
            JavacTask task = (JavacTask) javac.getTask(null, files, null, List.of("-proc:none"), null,
                    files.getJavaFileObjects(Path.of(file)));
            Iterable<? extends CompilationUnitTree> units = task.parse();
            task.analyze();
            for (CompilationUnitTree unit : units) {
                new Scanner(Trees.instance(task)).scan(unit, null);
            }
        }
    }

    /** Notes for each method which methods of the file it calls, constructors too. */
    private static final class Scanner extends TreePathScanner<Void, String> {
        private final Trees trees;

        Scanner(Trees trees) {
            this.trees = trees;
        }

        @Override
        public Void visitClass(ClassTree tree, String from) {
            return super.visitClass(tree, tree.getSimpleName() + ".<init>");
        }

        @Override
        public Void visitMethod(MethodTree tree, String from) {
            String name = name(trees.getElement(getCurrentPath()));
            CALLS.computeIfAbsent(name, k -> new TreeSet<>());
            return super.visitMethod(tree, name);
        }

        @Override
        public Void visitMethodInvocation(MethodInvocationTree tree, String from) {
            note(from);
            return super.visitMethodInvocation(tree, from);
        }

        @Override
        public Void visitNewClass(NewClassTree tree, String from) {
            note(from);
            noteMade(from);
            return super.visitNewClass(tree, from);
        }

        @Override
        public Void visitNewArray(NewArrayTree tree, String from) {
            noteMade(from);
            return super.visitNewArray(tree, from);
        }

        /** All calls of a run live in one room, so that just constructors make something. */
        private static void noteMade(String from) {
            Check.yes(from + " makes something and is a constructor", from.endsWith(".<init>"));
        }

        private void note(String from) {
            Element called = trees.getElement(getCurrentPath());
            boolean own = trees.getPath(called) != null;
            if (own) {
                CALLS.computeIfAbsent(from, k -> new TreeSet<>()).add(name(called));
            }
        }

        private static String name(Element method) {
            return method.getEnclosingElement().getSimpleName() + "." + method.getSimpleName();
        }
    }

    private static Set<String> reached(String method) {
        Set<String> found = new TreeSet<>();
        collect(method, found);
        return found;
    }

    private static void collect(String method, Set<String> found) {
        for (String called : CALLS.getOrDefault(method, Set.of())) {
            if (found.add(called)) {
                collect(called, found);
            }
        }
    }

    /** All methods that call this one and are called by it, at last; none if it is not called again by itself. */
    private static Set<String> ring(String method) {
        Set<String> found = new TreeSet<>();
        for (String called : reached(method)) {
            if (reached(called).contains(method)) {
                found.add(called);
            }
        }
        return found;
    }

    /** How many calls stand open at most from this one on; those of a ring count as one. */
    private static int depth(String method, Map<String, Integer> depths) {
        if (depths.containsKey(method)) {
            return depths.get(method);
        }
        Set<String> ring = ring(method);
        Set<String> members = ring.isEmpty() ? Set.of(method) : ring;
        int most = 0;
        for (String member : members) {
            for (String called : CALLS.getOrDefault(member, Set.of())) {
                if (!members.contains(called)) {
                    most = Math.max(most, depth(called, depths));
                }
            }
        }
        depths.put(method, most + 1);
        return most + 1;
    }
}
