import java.lang.reflect.Constructor;
import java.lang.reflect.Executable;
import java.lang.reflect.Field;
import java.lang.reflect.Method;
import java.lang.reflect.Modifier;
import java.util.Arrays;
import java.util.Set;
import java.util.TreeSet;

/** The public face: just the members that the document tells, and no other that can be seen. */
public final class FaceTest {
    private static final String INDEX = "IndexOutOfBoundsException";
    private static final String ARGUMENT = "IllegalArgumentException";
    private static final String STATE = "IllegalStateException";

    private static final Set<String> DUE = new TreeSet<>(Set.of(
        "FingerPosts()",
        "int put(int, int, int)" + throwing(INDEX, ARGUMENT, STATE),
        "int take(int, int)" + throwing(INDEX, ARGUMENT, STATE),
        "int merge(int, int)" + throwing(INDEX, STATE),
        "int cut(int, int)" + throwing(INDEX, ARGUMENT, STATE),
        "int turn(int, int)" + throwing(INDEX, ARGUMENT, STATE),
        "int miles(int, int)" + throwing(INDEX, ARGUMENT),
        "int count(int, int)" + throwing(INDEX),
        "int sign(int, int, int)" + throwing(INDEX),
        "int walk(int, int, int)" + throwing(INDEX, ARGUMENT, STATE),
        "int step(int, int, boolean)" + throwing(INDEX, ARGUMENT),
        "int at(int, int)" + throwing(INDEX),
        "int range(int, int, int, int)" + throwing(INDEX, ARGUMENT),
        "int near(int, int)" + throwing(INDEX, ARGUMENT),
        "int far(int)" + throwing(INDEX),
        "int unlike(int, int)" + throwing(ARGUMENT),
        "int would(int)" + throwing(INDEX),
        "int advise(int)" + throwing(INDEX),
        "double mean(int)" + throwing(INDEX),
        "long digest()"));

    private static String throwing(String... names) {
        return " throws " + String.join(", ", names);
    }

    private static String named(Class<?>[] types) {
        return String.join(", ", Arrays.stream(types).map(Class::getSimpleName).toList());
    }

    private static String told(String start, Executable member) {
        String throwsClause = member.getExceptionTypes().length == 0 ? ""
            : throwing(named(member.getExceptionTypes()));
        return start + "(" + named(member.getParameterTypes()) + ")" + throwsClause;
    }

    private static boolean hidden(int modifiers) {
        return Modifier.isPrivate(modifiers);
    }

    private static Set<String> seen() {
        Set<String> members = new TreeSet<>();
        for (Constructor<?> c : FingerPosts.class.getDeclaredConstructors()) {
            if (!hidden(c.getModifiers())) {
                members.add(told("FingerPosts", c));
            }
        }
        for (Method m : FingerPosts.class.getDeclaredMethods()) {
            if (!hidden(m.getModifiers()) && !m.isSynthetic()) {
                members.add(told(m.getReturnType().getSimpleName() + " " + m.getName(), m));
            }
        }
        for (Field f : FingerPosts.class.getDeclaredFields()) {
            if (!hidden(f.getModifiers()) && !f.isSynthetic()) {
                members.add("field " + f.getName());
            }
        }
        return members;
    }

    private static boolean publicAndFinal() {
        int modifiers = FingerPosts.class.getModifiers();
        return Modifier.isPublic(modifiers) && Modifier.isFinal(modifiers);
    }

    public static void main(String[] args) {
        Checks checks = new Checks();
        checks.same("the members that can be seen", DUE, FaceTest::seen);
        checks.same("the class is public and final", true, FaceTest::publicAndFinal);
        checks.end("FaceTest");
    }
}
