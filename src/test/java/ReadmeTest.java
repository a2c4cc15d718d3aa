import java.lang.reflect.Method;
import java.net.URL;
import java.net.URLClassLoader;
import java.nio.charset.StandardCharsets;
import java.nio.file.Files;
import java.nio.file.Path;
import java.util.List;
import java.util.Map;
import java.util.TreeMap;
import java.util.TreeSet;
import java.util.regex.Matcher;
import java.util.regex.Pattern;
import javax.tools.ToolProvider;

/**
 * The examples of README.md are compiled, and each value must be the one that stands behind it; no
 * method of the face may be missing there. Arguments: TokenBus.java, DOC.md, README.md.
 */
public final class ReadmeTest {
    private static final Pattern ANSWER = Pattern.compile("int (\\w+) = .*;\\s*// (-?\\d+): .*");

    private ReadmeTest() {
    }

    public static void main(String[] args) throws Exception {
        Check check = new Check();
        String path = args.length > 2 ? args[2] : "README.md";
        String readme = new String(Files.readAllBytes(Path.of(path)), StandardCharsets.UTF_8);
        Map<String, Integer> due = new TreeMap<>();
        Map<?, ?> got = answers(example(readme, due));
        check.is("there are examples", due.size() >= 10, true);
        for (String name : due.keySet()) {
            check.same("README.md: " + name, got.get(name), due.get(name));
        }
        for (Method method : TokenBus.class.getMethods()) {
            if (method.getDeclaringClass() == TokenBus.class) {
                names(check, readme, method.getName());
            }
        }
        Path tests = Path.of(path).toAbsolutePath().resolveSibling("src/test/java");
        for (String file : new TreeSet<>(List.of(tests.toFile().list()))) {
            if (file.endsWith("Test.java")) {
                names(check, readme, file.replace(".java", ""));
            }
        }
        check.end();
    }

    private static void names(Check check, String readme, String name) {
        check.is("README.md names " + name, readme.contains("`" + name + "`"), true);
    }

    /** A class that runs the examples and keeps each value that a remark tells. */
    private static String example(String readme, Map<String, Integer> due) {
        StringBuilder code = new StringBuilder("public class Example {\n"
                + "public static java.util.Map<String, Integer> answers() {\n"
                + "java.util.Map<String, Integer> all = new java.util.TreeMap<>();\n");
        String[] parts = readme.split("```");
        for (int i = 1; i < parts.length; i += 2) {
            for (String line : parts[i].replaceFirst("^java", "").split("\n")) {
                code.append(line).append('\n');
                Matcher answer = ANSWER.matcher(line);
                if (answer.matches()) {
                    due.put(answer.group(1), Integer.valueOf(answer.group(2)));
                    code.append("all.put(\"").append(answer.group(1)).append("\", ").append(answer.group(1)).append(");\n");
                }
            }
        }
        return code.append("return all;\n}\n}\n").toString();
    }

    private static Map<?, ?> answers(String code) throws Exception {
        Path out = Files.createTempDirectory("readme");
        Path source = out.resolve("Example.java");
        Path built = out.resolve("Example.class");
        try {
            Files.write(source, code.getBytes(StandardCharsets.UTF_8));
            int failed = ToolProvider.getSystemJavaCompiler().run(null, null, null, "-d", out.toString(),
                    "-cp", System.getProperty("java.class.path"), source.toString());
            if (failed != 0) {
                return Map.of();
            }
            try (URLClassLoader loader = new URLClassLoader(new URL[] {out.toUri().toURL()})) {
                return (Map<?, ?>) loader.loadClass("Example").getMethod("answers").invoke(null);
            }
        } finally {
            Files.deleteIfExists(source);
            Files.deleteIfExists(built);
            Files.deleteIfExists(out);
        }
    }
}
