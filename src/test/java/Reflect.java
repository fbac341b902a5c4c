import java.lang.reflect.InvocationTargetException;
import java.lang.reflect.Method;
import java.util.HashMap;
import java.util.Map;

/** Calls by name, to the class or to its model. */
final class Reflect {
    private static final Map<String, Method> KNOWN = new HashMap<>();

    private Reflect() {
    }

    static long call(Object on, String name, long... v) {
        Method method = KNOWN.computeIfAbsent(on.getClass() + name, k -> find(on.getClass(), name));
        Class<?>[] types = method.getParameterTypes();
        Object[] with = new Object[types.length];
        for (int i = 0; i < types.length; i++) {
            if (types[i] == boolean.class) {
                with[i] = v[i] != 0;
            } else if (types[i] == long.class) {
                with[i] = v[i];
            } else {
                with[i] = (int) v[i];
            }
        }
        try {
            return ((Number) method.invoke(on, with)).longValue();
        } catch (ReflectiveOperationException e) {
            throw new IllegalStateException(name, e instanceof InvocationTargetException ? e.getCause() : e);
        }
    }

    private static Method find(Class<?> of, String name) {
        for (Method m : of.getDeclaredMethods()) {
            boolean isNumber = m.getReturnType() == int.class || m.getReturnType() == long.class;
            if (m.getName().equals(name) && isNumber && areNumbers(m.getParameterTypes())) {
                return m;
            }
        }
        throw new IllegalArgumentException(of + " has no " + name);
    }

    /** The model has functions of its own that bear the names of calls. */
    private static boolean areNumbers(Class<?>[] types) {
        for (Class<?> type : types) {
            if (type != int.class && type != long.class && type != boolean.class) {
                return false;
            }
        }
        return true;
    }
}
