import java.lang.reflect.InvocationTargetException;
import java.lang.reflect.Method;
import java.util.HashMap;
import java.util.Map;

/** Calls of a SettlementRing by their names, so that tables of arguments can be gone through. */
final class Face {
    private static final Map<String, Method> METHODS = new HashMap<>();

    static {
        for (Method method : SettlementRing.class.getMethods()) {
            if (method.getDeclaringClass() == SettlementRing.class) {
                METHODS.put(method.getName(), method);
            }
        }
    }

    private Face() {
    }

    /** The answer of a call as a text, or the simple name of the exception that it throws. */
    static String answer(SettlementRing ring, String name, Object... args) {
        try {
            return String.valueOf(METHODS.get(name).invoke(ring, args));
        } catch (InvocationTargetException e) {
            return e.getCause().getClass().getSimpleName();
        } catch (IllegalAccessException e) {
            throw new AssertionError(e);
        }
    }

    static String text(String name, Object... args) {
        StringBuilder text = new StringBuilder(name).append('(');
        for (int i = 0; i < args.length; i++) {
            text.append(i == 0 ? "" : ", ").append(args[i]);
        }
        return text.append(')').toString();
    }

    /** Makes a call that is due to be answered so. */
    static void answers(SettlementRing ring, Object due, String name, Object... args) {
        Checks.same(text(name, args), answer(ring, name, args), String.valueOf(due));
    }
}
