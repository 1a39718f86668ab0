import java.lang.reflect.InvocationTargetException;
import java.lang.reflect.Method;

/** An object of FingerPosts whose calls are written as texts, such as "put(0, 40000, 5)". */
final class Posts {
    /** The document says nothing of what later calls answer, so no test may ask for them. */
    static final int MOST_CALLS = 512;

    private final FingerPosts posts = new FingerPosts();
    private int calls = 0;

    int calls() {
        return calls;
    }

    /** The answer as a text; an exception is "throws." and its name. */
    String answer(String call) {
        calls++;
        if (calls > MOST_CALLS) {
            throw new AssertionError("call " + calls + " of one object: " + call);
        }
        int open = call.indexOf('(');
        Method method = methodOf(call.substring(0, open));
        String inside = call.substring(open + 1, call.length() - 1);
        Object[] arguments = argumentsOf(method, inside.isEmpty() ? new String[0] : inside.split(", "));
        try {
            return String.valueOf(method.invoke(posts, arguments));
        } catch (InvocationTargetException e) {
            return "throws." + e.getCause().getClass().getSimpleName();
        } catch (IllegalAccessException e) {
            throw new AssertionError(call, e);
        }
    }

    int number(String call) {
        return Integer.parseInt(answer(call));
    }

    /** All that an object holds: the names of both woods, each with its miles. */
    String woods() {
        StringBuilder text = new StringBuilder();
        for (int wood = 0; wood < 2; wood++) {
            text.append("wood ").append(wood).append(':');
            int all = number("count(" + wood + ", 0)");
            for (int k = 0; k < all; k++) {
                String name = answer("at(" + wood + ", " + k + ")");
                text.append(' ').append(name).append('=');
                text.append(answer("miles(" + wood + ", " + name + ")"));
            }
            text.append(wood == 0 ? "; " : "");
        }
        return text.toString();
    }

    private static Method methodOf(String name) {
        for (Method method : FingerPosts.class.getMethods()) {
            if (method.getName().equals(name) && method.getDeclaringClass() == FingerPosts.class) {
                return method;
            }
        }
        throw new AssertionError("there is no call " + name);
    }

    private static Object[] argumentsOf(Method method, String[] texts) {
        Class<?>[] types = method.getParameterTypes();
        if (types.length != texts.length) {
            throw new AssertionError(method.getName() + " takes " + types.length + " arguments");
        }
        Object[] arguments = new Object[texts.length];
        for (int k = 0; k < texts.length; k++) {
            boolean truth = types[k] == boolean.class;
            arguments[k] = truth ? (Object) Boolean.valueOf(texts[k]) : (Object) Integer.valueOf(texts[k]);
        }
        return arguments;
    }
}
