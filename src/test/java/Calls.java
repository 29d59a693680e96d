import java.lang.reflect.InvocationTargetException;
import java.lang.reflect.Method;
import java.util.HashMap;
import java.util.Map;

/** Calls a method of an object by its name, and gives the answer as a text. */
final class Calls {

    private static final Map<Class<?>, Map<String, Method>> KNOWN = new HashMap<>();

    private Calls() {
    }

    /** The number answered (a boolean counts 1 or 0), "void", or the simple name of what was thrown. */
    static String answer(Object bot, String name, int... given) {
        Method method = methodOf(bot, name);
        try {
            return textOf(method.invoke(bot, argumentsOf(method, given)));
        } catch (InvocationTargetException e) {
            return e.getCause().getClass().getSimpleName();
        } catch (IllegalAccessException e) {
            throw new AssertionError(name + " cannot be called", e);
        }
    }

    private static Method methodOf(Object bot, String name) {
        Method method = KNOWN.computeIfAbsent(bot.getClass(), Calls::methodsOf).get(name);
        if (method == null) {
            throw new AssertionError("no method " + name);
        }
        return method;
    }

    private static Map<String, Method> methodsOf(Class<?> type) {
        Map<String, Method> methods = new HashMap<>();
        for (Method method : type.getDeclaredMethods()) {
            method.setAccessible(true);
            methods.put(method.getName(), method);
        }
        return methods;
    }

    private static Object[] argumentsOf(Method method, int[] given) {
        Class<?>[] types = method.getParameterTypes();
        if (types.length != given.length) {
            throw new AssertionError(method.getName() + " takes " + types.length + " arguments");
        }
        Object[] arguments = new Object[given.length];
        for (int i = 0; i < given.length; i++) {
            if (types[i] == boolean.class) {
                arguments[i] = given[i] != 0;
            } else {
                arguments[i] = given[i];
            }
        }
        return arguments;
    }

    private static String textOf(Object result) {
        if (result == null) {
            return "void";
        }
        if (result instanceof Boolean told) {
            return told ? "1" : "0";
        }
        if (result instanceof Character sign) {
            return Integer.toString(sign);
        }
        return result.toString();
    }
}
