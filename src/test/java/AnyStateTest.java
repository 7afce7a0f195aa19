import java.lang.reflect.InvocationTargetException;
import java.lang.reflect.Method;
import java.lang.reflect.Modifier;
import java.util.ArrayList;
import java.util.Comparator;
import java.util.List;

/**
 * Rule 7 of LANGUAGE.md: whatever the arguments and the state, also behind the 512th call, a call answers, or throws an
 * exception that its face names and that the program itself throws, never the machine. The runs are the same ones each time.
 */
public final class AnyStateTest {
    private static final int OBJECTS = 300, CALLS = 2000;
    private static final int[] WILD = {Integer.MIN_VALUE, Integer.MIN_VALUE + 1, -65536, -100, -4, -3, -2, -1, 0, 1, 2, 3, 5, 11, 15, 16, 20, 31, 32,
        33, 60, 63, 64, 200, 511, 600, 1023, 1024, 1025, 9999, 30000, 65536, Integer.MAX_VALUE - 1, Integer.MAX_VALUE};
    private static final Due due = new Due();

    private long seed;

    public static void main(String[] args) throws IllegalAccessException {
        List<Method> face = new ArrayList<>();
        for (Method method : KeyringCourt.class.getDeclaredMethods()) {
            if (Modifier.isPublic(method.getModifiers())) {
                face.add(method);
            }
        }
        face.sort(Comparator.comparing(Method::getName));
        for (int object = 0; object < OBJECTS; object++) {
            new AnyStateTest().play(object, face);
        }
        due.end("AnyStateTest");
    }

    private int chance(int below) {
        seed = seed * 6364136223846793005L + 1442695040888963407L;
        return (int) ((seed >>> 33) % below);
    }

    private void play(int object, List<Method> face) throws IllegalAccessException {
        seed = 7919L * object + 1;
        chance(2);
        // In some runs hardly any minute passes and few calls end anything, so that limits are come to.
        boolean isCalm = object % 2 == 0;
        int wild = 1 + object % 40;
        KeyringCourt court = object % 3 == 0 ? new KeyringCourt() : Courts.busy();
        for (int call = 0; call < CALLS; call++) {
            Method method = face.get(chance(face.size()));
            boolean isEnd = List.of("pass", "leave", "signOut", "withdraw").contains(method.getName());
            if (!(isCalm && isEnd && chance(30) > 0)) {
                playOne(object, court, method, wild);
            }
        }
        due.yes("the sum is found anew, object " + object, court.sum() == court.sumAnew(court.audits()));
    }

    private void playOne(int object, KeyringCourt court, Method method, int wild) throws IllegalAccessException {
        Object[] values = new Object[method.getParameterCount()];
        for (int i = 0; i < values.length; i++) {
            values[i] = argument(method.getParameterTypes()[i], wild);
        }
        try {
            method.invoke(court, values);
        } catch (InvocationTargetException e) {
            RuntimeException thrown = e.getCause() instanceof RuntimeException ? (RuntimeException) e.getCause() : null;
            if (thrown == null || !List.of(method.getExceptionTypes()).contains(thrown.getClass()) || !Due.isThrownByCourt(thrown)) {
                due.fail("object " + object + ": " + method.getName() + java.util.Arrays.toString(values) + " threw " + e.getCause());
            }
        }
    }

    private Object argument(Class<?> type, int wild) {
        if (type == boolean.class) {
            return chance(3) > 0;
        }
        return chance(wild) == 0 ? WILD[chance(WILD.length)] : chance(chance(3) == 0 ? 60 : 6) - chance(20) / 19;
    }
}
