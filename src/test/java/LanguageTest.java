import java.nio.charset.StandardCharsets;
import java.nio.file.Files;
import java.nio.file.Path;
import java.util.regex.Matcher;
import java.util.regex.Pattern;

/** The rules of LANGUAGE.md that can be seen in the text of TokenBus.java, whose path is given. */
public final class LanguageTest {
    private static final int MOST_LINES_OF_A_METHOD = 60;

    private LanguageTest() {
    }

    public static void main(String[] args) throws Exception {
        Check check = new Check();
        String path = args.length > 0 ? args[0] : "src/main/java/TokenBus.java";
        String source = new String(Files.readAllBytes(Path.of(path)), StandardCharsets.UTF_8);
        String code = withoutTextsAndComments(source);
        absent(check, code, "lambda", "->");
        absent(check, code, "method reference", "::");
        absent(check, code, "catching, rule 6 and the page", "\\b(try|catch|finally)\\b");
        absent(check, code, "words left out", "\\b(synchronized|assert|instanceof|package|protected|volatile)\\b");
        absent(check, code, "own equals, hashCode, toString", "\\b(equals|hashCode|toString)\\s*\\(");
        absent(check, code, "clock, randomness, environment",
                "\\b(Random|nanoTime|currentTimeMillis|Thread|File|Files|getenv|getProperty|println)\\b");
        absent(check, code, "static state", "static\\s+(?!final\\b)[\\w\\[\\]<>]+\\s+\\w+\\s*(=|;)");
        absent(check, code, "an import beside the one that is needed", "import\\s+(?!java\\.util\\.NoSuchElementException;)");
        absent(check, code, "an exception beside those of the document", "throw\\s+new\\s+(?!IllegalArgumentException\\(|"
                + "IllegalStateException\\(|IndexOutOfBoundsException\\(|NoSuchElementException\\()");
        absent(check, code, "functions that throw by themselves", "\\w+Exact\\b");
        absent(check, code, "a loop without an end of its own", "while\\s*\\(\\s*true|for\\s*\\(\\s*;\\s*;");
        check.is("some twelve classes", number(code, "\\bclass\\s+\\w+") <= 12, true);
        check.is("parameters, seven at most", number(code, "\\w+\\((\\w[\\w\\[\\]]* \\w+, ){7,}") == 0, true);
        methodsAreShort(check, code);
        check.end();
    }

    private static void absent(Check check, String code, String what, String pattern) {
        Matcher found = Pattern.compile(pattern).matcher(code);
        check.same(what, found.find() ? "at: " + around(code, found.start()) : "absent", "absent");
    }

    private static String around(String code, int at) {
        return code.substring(at, Math.min(code.length(), at + 60)).replace('\n', ' ');
    }

    private static int number(String code, String pattern) {
        Matcher found = Pattern.compile(pattern).matcher(code);
        int number = 0;
        while (found.find()) {
            number++;
        }
        return number;
    }

    private static void methodsAreShort(Check check, String code) {
        String[] lines = code.split("\n");
        Pattern head = Pattern.compile("^( {4}| {8})(\\w.*)?\\w+\\(.*\\{$");
        for (int i = 0; i < lines.length; i++) {
            Matcher found = head.matcher(lines[i]);
            if (!found.matches()) {
                continue;
            }
            int end = i;
            while (end < lines.length && !lines[end].equals(found.group(1) + "}")) {
                end++;
            }
            check.is("short: " + lines[i].trim(), end - i <= MOST_LINES_OF_A_METHOD, true);
        }
    }

    private static String withoutTextsAndComments(String source) {
        return source.replaceAll("(?s)/\\*.*?\\*/", "").replaceAll("//[^\n]*", "")
                .replaceAll("\"[^\"\n]*\"", "\"\"");
    }
}
