import java.lang.reflect.Constructor;
import java.lang.reflect.Field;
import java.lang.reflect.Method;
import java.lang.reflect.Modifier;
import java.nio.charset.StandardCharsets;
import java.nio.file.Files;
import java.nio.file.Path;
import java.util.ArrayList;
import java.util.List;
import java.util.Set;
import java.util.TreeSet;
import java.util.regex.Matcher;
import java.util.regex.Pattern;

/**
 * "The public face": every member that the document writes there, with its signature, and no other one
 * that is seen. Arguments: TokenBus.java, DOC.md.
 */
public final class FaceTest {
    private static final Pattern METHOD = Pattern.compile("public (\\w+ \\w+)\\((.*?)\\)(?: throws (.*))?;");

    private FaceTest() {
    }

    public static void main(String[] args) throws Exception {
        Check check = new Check();
        String path = args.length > 1 ? args[1] : "../shared/DOC.md";
        String document = new String(Files.readAllBytes(Path.of(path)), StandardCharsets.UTF_8);
        List<String> face = face(document);
        check.is("lines of the face", face.size(), 31);
        check.same("its first line", face.get(0), "public final class TokenBus {");
        check.same("its constant", face.get(1), "public static final int NONE = -1;");
        check.same("its constructor", face.get(2), "public TokenBus();");
        promises(check, document, face);
        Class<?> built = TokenBus.class;
        check.same("modifiers of the class", Modifier.toString(built.getModifiers()), "public final");
        check.same("what the class extends", built.getSuperclass(), Object.class);
        check.is("number of interfaces", built.getInterfaces().length, 0);
        constants(check, built);
        constructors(check, built);
        methods(check, built, face);
        for (Class<?> inner : built.getDeclaredClasses()) {
            check.is(inner + " is private or package-visible",
                    Modifier.isPublic(inner.getModifiers()) || Modifier.isProtected(inner.getModifiers()), false);
            check.is(inner + " is static", Modifier.isStatic(inner.getModifiers()), true);
        }
        check.is("NONE", TokenBus.NONE, -1);
        check.end();
    }

    /** The lines of the document's face, without spaces before them. */
    private static List<String> face(String document) {
        List<String> face = new ArrayList<>();
        String block = document.split("```java\n", 2)[1].split("```", 2)[0];
        for (String line : block.split("\n")) {
            face.add(line.trim());
        }
        return face;
    }

    /** Promise 1 is the constructor, the others are the methods of the face in its order. */
    private static void promises(Check check, String document, List<String> face) {
        for (int promise = 1; promise <= Sentences.PROMISES; promise++) {
            String section = document.split("\n## Promise " + promise + ": ", 2)[1];
            String signature = section.split("`", 3)[1];
            check.same("the signature of promise " + promise, "public " + signature + ";", face.get(promise + 1));
        }
    }

    /** A method as the document writes it, without the names of its arguments. */
    private static String plain(String line) {
        Matcher method = METHOD.matcher(line);
        if (!method.matches()) {
            return line;
        }
        String types = method.group(2).replaceAll("(\\w+) \\w+(, )?", "$1,").replaceFirst(",$", "");
        String thrown = method.group(3) == null ? "" : " " + method.group(3).replace(",", "");
        return method.group(1) + "(" + types + ")" + thrown;
    }

    private static void constants(Check check, Class<?> built) {
        for (Field field : built.getDeclaredFields()) {
            if (field.isSynthetic() || Modifier.isPrivate(field.getModifiers())) {
                continue;
            }
            check.same("a field that is seen", Modifier.toString(field.getModifiers()) + " " + field.getType() + " "
                    + field.getName(), "public static final int NONE");
        }
    }

    private static void constructors(Check check, Class<?> built) {
        Constructor<?>[] made = built.getDeclaredConstructors();
        check.is("number of constructors", made.length, 1);
        check.same("the constructor", made[0].toString(), "public TokenBus()");
    }

    private static void methods(Check check, Class<?> built, List<String> face) {
        Set<String> due = new TreeSet<>();
        for (String line : face.subList(3, face.size() - 1)) {
            due.add(plain(line));
        }
        Set<String> seen = new TreeSet<>();
        Set<String> hidden = new TreeSet<>();
        Set<String> names = new TreeSet<>();
        for (Method method : built.getDeclaredMethods()) {
            if (Modifier.isPrivate(method.getModifiers()) || method.isSynthetic()) {
                hidden.add(method.getName());
                continue;
            }
            names.add(method.getName());
            seen.add(told(method));
        }
        check.same("the methods that are seen", seen, due);
        hidden.retainAll(names);
        check.is("private methods with the name of a public one " + hidden, hidden.size(), 0);
    }

    private static String told(Method method) {
        StringBuilder told = new StringBuilder();
        if (method.getModifiers() != Modifier.PUBLIC) {
            told.append(Modifier.toString(method.getModifiers())).append(' ');
        }
        told.append(method.getReturnType()).append(' ').append(method.getName()).append('(');
        for (int i = 0; i < method.getParameterCount(); i++) {
            told.append(i == 0 ? "" : ",").append(method.getParameterTypes()[i]);
        }
        told.append(')');
        for (Class<?> thrown : method.getExceptionTypes()) {
            told.append(' ').append(thrown.getSimpleName());
        }
        return told.toString();
    }
}
