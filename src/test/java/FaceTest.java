import java.lang.reflect.Constructor;
import java.lang.reflect.Field;
import java.lang.reflect.Method;
import java.lang.reflect.Modifier;
import java.util.Arrays;
import java.util.Set;
import java.util.TreeSet;

/** The public face: every member of the document with its signature, and no other one that is seen. */
public final class FaceTest {
    private static final String A = "IllegalArgumentException";
    private static final String S = "IllegalStateException";
    private static final String N = "NoSuchElementException";
    private static final String I = "IndexOutOfBoundsException";
    private static final String[] METHODS = {
        "int addStation(int) " + A + " " + S,
        "boolean setOn(int,boolean) " + N,
        "int setTimes(int,int,int) " + A,
        "int give(int,int,int) " + N + " " + A + " " + S,
        "int addNoise(int,int) " + A + " " + S,
        "int run(int) " + A + " " + S,
        "int loseToken()",
        "int setting(int) " + A,
        "int station(int,int) " + N + " " + A,
        "int addressAt(int) " + I,
        "int queued(int,int) " + N + " " + I,
        "int message(int,int) " + I + " " + A,
        "int count(int) " + A,
        "boolean isNoisy(int) " + A,
        "int logged()",
        "int visit(int,int) " + I + " " + A,
        "int greatestRotation()",
        "double waits(boolean)",
        "double use()",
        "int waitOf(int) " + I + " " + S,
        "int completeAfter() " + S,
        "int leastTarget(int) " + A + " " + S,
        "int append(int) " + A + " " + S,
        "int clearText()",
        "int parse()",
        "int undo() " + S,
        "long digest()",
    };

    private FaceTest() {
    }

    public static void main(String[] args) {
        Check check = new Check();
        Class<?> face = TokenBus.class;
        check.same("modifiers of the class", Modifier.toString(face.getModifiers()), "public final");
        check.same("what the class extends", face.getSuperclass(), Object.class);
        check.is("number of interfaces", face.getInterfaces().length, 0);
        constants(check, face);
        constructors(check, face);
        methods(check, face);
        for (Class<?> inner : face.getDeclaredClasses()) {
            check.is(inner + " is private or package-visible",
                    Modifier.isPublic(inner.getModifiers()) || Modifier.isProtected(inner.getModifiers()), false);
            check.is(inner + " is static", Modifier.isStatic(inner.getModifiers()), true);
        }
        check.is("NONE", TokenBus.NONE, -1);
        check.end();
    }

    private static void constants(Check check, Class<?> face) {
        for (Field field : face.getDeclaredFields()) {
            if (field.isSynthetic() || Modifier.isPrivate(field.getModifiers())) {
                continue;
            }
            check.same("a field that is seen", Modifier.toString(field.getModifiers()) + " " + field.getType() + " "
                    + field.getName(), "public static final int NONE");
        }
    }

    private static void constructors(Check check, Class<?> face) {
        Constructor<?>[] made = face.getDeclaredConstructors();
        check.is("number of constructors", made.length, 1);
        check.same("the constructor", made[0].toString(), "public TokenBus()");
    }

    private static void methods(Check check, Class<?> face) {
        Set<String> seen = new TreeSet<>();
        Set<String> hidden = new TreeSet<>();
        Set<String> names = new TreeSet<>();
        for (Method method : face.getDeclaredMethods()) {
            if (Modifier.isPrivate(method.getModifiers()) || method.isSynthetic()) {
                hidden.add(method.getName());
                continue;
            }
            names.add(method.getName());
            seen.add(told(method));
        }
        check.same("the methods that are seen", seen, new TreeSet<>(Arrays.asList(METHODS)));
        hidden.retainAll(names);
        check.is("private methods with the name of a public one " + hidden, hidden.size(), 0);
    }

    private static String told(Method method) {
        StringBuilder told = new StringBuilder();
        if (method.getModifiers() != Modifier.PUBLIC) {
            told.append(Modifier.toString(method.getModifiers())).append(' ');
        }
        told.append(method.getReturnType()).append(' ').append(method.getName()).append('(');
        for (int i = 0; i < method.getParameterCount(); i++) {
            told.append(i == 0 ? "" : ",").append(method.getParameterTypes()[i]);
        }
        told.append(')');
        for (Class<?> thrown : method.getExceptionTypes()) {
            told.append(' ').append(thrown.getSimpleName());
        }
        return told.toString();
    }
}
