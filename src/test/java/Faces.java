import java.lang.reflect.InvocationTargetException;
import java.lang.reflect.Method;
import java.util.HashMap;
import java.util.Map;

/** Calls methods by their names, so that a BurstGrouper and a PlainGrouper are asked in the same way. */
final class Faces {
    private static final Map<String, Method> METHODS = new HashMap<>();

    private Faces() {
    }

    /** What a call answers as a text, or the name of the exception that it throws. */
    static String answer(Object x, String name, Object... arguments) {
        try {
            return String.valueOf(method(x, name).invoke(x, arguments));
        } catch (InvocationTargetException e) {
            return e.getCause().getClass().getName();
        } catch (IllegalAccessException e) {
            throw new IllegalStateException(e);
        }
    }

    private static Method method(Object x, String name) {
        return METHODS.computeIfAbsent(x.getClass().getName() + "." + name, any -> find(x, name));
    }

    private static Method find(Object x, String name) {
        for (Method method : x.getClass().getDeclaredMethods()) {
            if (method.getName().equals(name)) {
                method.setAccessible(true);
                return method;
            }
        }
        throw new IllegalStateException("no method " + name);
    }
}
