import java.lang.reflect.InvocationTargetException;
import java.lang.reflect.Method;
import java.util.Map;
import java.util.concurrent.ConcurrentHashMap;

/** Calls by name, the same for the class and for PlainNames. */
final class Calls {
    private static final Map<Class<?>, Map<String, Method>> METHODS = new ConcurrentHashMap<>();

    private Calls() {
    }

    static long of(Object on, String call, int... a) {
        Method method = METHODS.computeIfAbsent(on.getClass(), Calls::methodsOf).get(call + a.length);
        if (method == null) {
            throw new IllegalStateException(call);
        }
        Object[] boxed = new Object[a.length];
        for (int i = 0; i < a.length; i++) {
            boxed[i] = a[i];
        }
        try {
            return ((Number) method.invoke(on, boxed)).longValue();
        } catch (IllegalAccessException | InvocationTargetException e) {
            throw new IllegalStateException(call, e);
        }
    }

    private static Map<String, Method> methodsOf(Class<?> of) {
        Map<String, Method> methods = new ConcurrentHashMap<>();
        for (Method method : of.getDeclaredMethods()) {
            methods.put(method.getName() + method.getParameterCount(), method);
        }
        return methods;
    }
}
