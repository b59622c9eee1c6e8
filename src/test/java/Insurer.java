import java.lang.reflect.InvocationTargetException;
import java.lang.reflect.Method;
import java.lang.reflect.Modifier;
import java.util.HashMap;
import java.util.List;
import java.util.Map;

/** A new insurer that is called by name; it counts its calls, since nothing is promised after the 512th one. */
final class Insurer {
    static final int MOST_CALLS = 512;
    private static final Map<String, Method> METHODS = methods();

    private final PaperBoatInsurer insurer = new PaperBoatInsurer();
    private int calls = 0;

    private static Map<String, Method> methods() {
        Map<String, Method> methods = new HashMap<>();
        for (Method method : PaperBoatInsurer.class.getDeclaredMethods()) {
            if (Modifier.isPublic(method.getModifiers())) {
                methods.put(method.getName(), method);
            }
        }
        return methods;
    }

    static Class<?>[] parameters(String name) {
        if (!METHODS.containsKey(name)) {
            throw new IllegalArgumentException("the face has no method " + name);
        }
        return METHODS.get(name).getParameterTypes();
    }

    static Insurer after(List<Call> calls) {
        Insurer insurer = new Insurer();
        calls.forEach(insurer::answer);
        return insurer;
    }

    /** The answer as a text, or "throws" and the name of the exception. */
    String answer(Call call) {
        calls++;
        if (calls > MOST_CALLS) {
            throw new IllegalStateException("a test may not ask for more than " + MOST_CALLS + " calls of one object");
        }
        try {
            return String.valueOf(METHODS.get(call.name()).invoke(insurer, call.arguments().toArray()));
        } catch (InvocationTargetException thrown) {
            return "throws " + thrown.getCause().getClass().getSimpleName();
        } catch (IllegalAccessException hidden) {
            throw new IllegalStateException(hidden);
        }
    }

    String ask(String name, Object... arguments) {
        return answer(Call.of(name, arguments));
    }

    /** The answer to a question that is answered with a number in every state. */
    int number(String name, Object... arguments) {
        return Integer.parseInt(ask(name, arguments));
    }
}
