import java.lang.reflect.InvocationTargetException;
import java.lang.reflect.Method;
import java.lang.reflect.Modifier;
import java.util.HashMap;
import java.util.Map;

/** Calls of a court by the name of the method, each with its answer as a text. */
final class Calls {
    static final String INDEX = "throws.IndexOutOfBoundsException";
    static final String ARGUMENT = "throws.IllegalArgumentException";
    static final String STATE = "throws.IllegalStateException";

    private static final Map<String, Method> METHODS = new HashMap<>();

    static {
        for (Method method : KeyringCourt.class.getDeclaredMethods()) {
            if (Modifier.isPublic(method.getModifiers())) {
                METHODS.put(method.getName(), method);
            }
        }
    }

    private Calls() {
    }

    static String play(KeyringCourt court, String name, Object... values) {
        try {
            return String.valueOf(METHODS.get(name).invoke(court, values));
        } catch (InvocationTargetException e) {
            RuntimeException thrown = (RuntimeException) e.getCause();
            return "throws." + thrown.getClass().getSimpleName() + (Due.isThrownByCourt(thrown) ? "" : " by the machine");
        } catch (IllegalAccessException e) {
            throw new IllegalStateException(e);
        }
    }

    static boolean isThrown(String answer) {
        return answer.startsWith("throws.");
    }
}
