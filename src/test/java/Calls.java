import java.lang.reflect.InvocationTargetException;
import java.lang.reflect.Method;

/** Calls by name, the same for the class and for PlainNames. */
final class Calls {
    private Calls() {
    }

    static long of(Object on, String call, int... a) {
        for (Method method : on.getClass().getDeclaredMethods()) {
            if (method.getName().equals(call) && method.getParameterCount() == a.length) {
                Object[] boxed = new Object[a.length];
                for (int i = 0; i < a.length; i++) {
                    boxed[i] = a[i];
                }
                try {
                    return ((Number) method.invoke(on, boxed)).longValue();
                } catch (IllegalAccessException | InvocationTargetException e) {
                    throw new IllegalStateException(call, e);
                }
            }
        }
        throw new IllegalStateException(call);
    }
}
