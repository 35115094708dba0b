import java.lang.reflect.InvocationTargetException;
import java.lang.reflect.Method;
import java.util.Arrays;
import java.util.Comparator;

/** Calls by their name, on the class and on the oracle alike. */
final class Side {
    private final Object object;

    Side(Object object) {
        this.object = object;
    }

    static Method[] calls() {
        Method[] calls = KingHears.class.getDeclaredMethods();
        calls = Arrays.stream(calls).filter(m -> java.lang.reflect.Modifier.isPublic(m.getModifiers()))
            .toArray(Method[]::new);
        Arrays.sort(calls, Comparator.comparing(Method::getName));
        return calls;
    }

    /** What it answers, or the exception's name. */
    String answer(Method call, Object... arguments) {
        try {
            Method own = object.getClass().getDeclaredMethod(call.getName(), call.getParameterTypes());
            own.setAccessible(true);
            return String.valueOf(own.invoke(object, arguments));
        } catch (InvocationTargetException e) {
            return "throws." + e.getCause().getClass().getSimpleName();
        } catch (ReflectiveOperationException e) {
            throw new IllegalStateException(e);
        }
    }
}
