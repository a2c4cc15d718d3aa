import com.sun.source.tree.ClassTree;
import com.sun.source.tree.CompilationUnitTree;
import com.sun.source.util.JavacTask;
import com.sun.source.util.Trees;
import java.io.File;
import java.util.List;
import java.util.Map;
import java.util.Set;
import java.util.TreeMap;
import java.util.TreeSet;
import javax.tools.JavaCompiler;
import javax.tools.StandardJavaFileManager;
import javax.tools.ToolProvider;

/** The rules of LANGUAGE.md, looked for in what the compiler has read of TokenBus.java, whose path is given. */
public final class LanguageTest {
    private static final int DEEPEST_CALL = 8;

    private LanguageTest() {
    }

    public static void main(String[] args) throws Exception {
        Check check = new Check();
        String path = args.length > 0 ? args[0] : "src/main/java/TokenBus.java";
        JavaCompiler compiler = ToolProvider.getSystemJavaCompiler();
        try (StandardJavaFileManager files = compiler.getStandardFileManager(null, null, null)) {
            JavacTask task = (JavacTask) compiler.getTask(null, files, null, List.of("-proc:none"), null,
                    files.getJavaFileObjects(new File(path)));
            Iterable<? extends CompilationUnitTree> units = task.parse();
            task.analyze();
            for (CompilationUnitTree unit : units) {
                look(check, unit, Trees.instance(task));
            }
        }
        check.end();
    }

    private static void look(Check check, CompilationUnitTree unit, Trees trees) {
        check.is("rule 1: one public class in the file", unit.getTypeDecls().size(), 1);
        check.is("rule 1: no package line", unit.getPackageName() == null, true);
        ClassTree face = (ClassTree) unit.getTypeDecls().get(0);
        Rules rules = new Rules(check, unit, trees, face);
        rules.scan(unit, null);
        check.is("rule 11: some twelve classes", rules.classes <= 12, true);
        check.same("page: divisors that are no constants, each tested by its method", rules.divisors,
                new TreeSet<>(Set.of("(double)counts.sent", "(double)line.time", "line.gapCount")));
        check.is("methods with calls", rules.calls.size() > 50, true);
        calls(check, rules.calls);
    }

    /** Rule 8, no method comes back to itself; rule 11, calls go at most eight deep. */
    private static void calls(Check check, Map<String, Set<String>> calls) {
        Map<String, Integer> depths = new TreeMap<>();
        for (String method : calls.keySet()) {
            int depth = depth(calls, depths, method, new TreeSet<>());
            check.is("rule 11: calls at most eight deep, from " + method + ": " + depth, depth <= DEEPEST_CALL, true);
        }
    }

    private static int depth(Map<String, Set<String>> calls, Map<String, Integer> depths, String method, Set<String> open) {
        if (depths.containsKey(method)) {
            return depths.get(method);
        }
        if (!open.add(method)) {
            return DEEPEST_CALL + 1;
        }
        int deepest = 0;
        for (String called : calls.getOrDefault(method, Set.of())) {
            deepest = Math.max(deepest, depth(calls, depths, called, open));
        }
        open.remove(method);
        depths.put(method, deepest + 1);
        return deepest + 1;
    }
}
