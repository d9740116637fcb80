import java.lang.reflect.InvocationTargetException;
import java.lang.reflect.Method;
import java.util.Arrays;

/** Makes calls by their names, on the class and on the Model alike. */
final class Asked {
    private Asked() {
    }

    /** What an object answers to a call, or "throws" and the exception's name. */
    static String answer(Object object, String name, Object... arguments) {
        Class<?>[] types = new Class<?>[arguments.length];
        Arrays.fill(types, int.class);
        try {
            Method method = object.getClass().getMethod(name, types);
            return String.valueOf(method.invoke(object, arguments));
        } catch (InvocationTargetException e) {
            return "throws " + e.getCause().getClass().getSimpleName();
        } catch (ReflectiveOperationException e) {
            throw new IllegalStateException(e);
        }
    }
}
