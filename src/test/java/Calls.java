import java.lang.reflect.InvocationTargetException;
import java.lang.reflect.Method;
import java.lang.reflect.Modifier;
import java.util.HashMap;
import java.util.Map;

/** Calls by their names, so that the class and the oracle can be asked alike. */
final class Calls {
    private static final Map<Class<?>, Map<String, Method>> FACES = new HashMap<>();

    private Calls() {
    }

    /** What x, a PerilSeat or an Oracle, answers to this call; a call that throws ends the test. */
    static long answer(Object x, String call, int... arguments) {
        Object[] given = new Object[arguments.length];
        for (int i = 0; i < given.length; i++) {
            given[i] = arguments[i];
        }
        try {
            return ((Number) FACES.computeIfAbsent(x.getClass(), Calls::face).get(call).invoke(x, given)).longValue();
        } catch (IllegalAccessException | InvocationTargetException e) {
            throw new IllegalStateException(call + " of " + x.getClass(), e);
        }
    }

    private static Map<String, Method> face(Class<?> type) {
        Map<String, Method> face = new HashMap<>();
        for (Method method : type.getDeclaredMethods()) {
            if (PerilSeat.class != type || Modifier.isPublic(method.getModifiers())) {
                face.put(method.getName(), method);
            }
        }
        return face;
    }

    /** All that x can ever answer of how it is now: it is undone to the last and brought back by this, in 360 calls. */
    static String everything(Object x) {
        StringBuilder all = new StringBuilder("counts");
        for (int what = 0; what <= 9; what++) {
            ask(all, x, "count", what);
        }
        ask(all, x, "fault");
        for (int what = 0; what <= 2; what++) {
            ask(all, x, "worlds", what);
        }
        long seats = answer(x, "count", 0);
        for (int seat = 0; seat < seats; seat++) {
            all.append(" | seat");
            for (int what = 0; what <= 3; what++) {
                ask(all, x, "seat", seat, what);
            }
        }
        long knights = answer(x, "count", 1);
        for (int knight = 0; knight < knights; knight++) {
            all.append(" | knight");
            for (int what = 0; what <= 6; what++) {
                ask(all, x, "knight", knight, what);
            }
        }
        for (long left = answer(x, "count", 8); left > 0; left--) {
            evening(all.append(" | undone"), x, "undo");
        }
        evening(all.append(" | back 0"), x, "back", 0);
        evening(all.append(" | back 1"), x, "back", 1);
        return all.toString();
    }

    /** The call's answer, and behind it all that a feast changes. */
    private static void evening(StringBuilder all, Object x, String call, int... arguments) {
        ask(all, x, call, arguments);
        ask(all, x, "count", 2);
        long knights = answer(x, "count", 1);
        for (int knight = 0; knight < knights; knight++) {
            ask(all, x, "knight", knight, 1);
            ask(all, x, "knight", knight, 4);
            ask(all, x, "knight", knight, 5);
            ask(all, x, "knight", knight, 6);
        }
    }

    private static void ask(StringBuilder all, Object x, String call, int... arguments) {
        all.append(' ').append(answer(x, call, arguments));
    }
}
