import java.lang.reflect.InvocationTargetException;
import java.lang.reflect.Method;
import java.lang.reflect.Modifier;
import java.util.ArrayList;
import java.util.Arrays;
import java.util.HashMap;
import java.util.List;
import java.util.Map;

/** A call by its name, so that MirrorKeep and its Model can be asked the same. */
record Call(String name, List<Object> arguments) {
    private static final Map<Class<?>, Map<String, Method>> METHODS = new HashMap<>();

    static Call of(String name, Object... arguments) {
        return new Call(name, Arrays.asList(arguments));
    }

    /** The calls that bring a text to the tape. */
    static List<Call> tape(String text) {
        byte[] bytes = Keep.bytes(text);
        List<Call> calls = new ArrayList<>();
        for (int from = 0; from < bytes.length; from += 20) {
            calls.add(of("feed", Keep.word(bytes, from), Keep.word(bytes, from + 4), Keep.word(bytes, from + 8),
                    Keep.word(bytes, from + 12), Keep.word(bytes, from + 16)));
            calls.add(of("end", Math.min(20, bytes.length - from)));
        }
        return calls;
    }

    /** A number, null of a call that answers none, or "throws." and the exception's name. */
    String on(Object target) {
        Method method = METHODS.computeIfAbsent(target.getClass(), Call::methods).get(name);
        try {
            return String.valueOf(method.invoke(target, arguments.toArray()));
        } catch (InvocationTargetException e) {
            return "throws." + e.getCause().getClass().getSimpleName();
        } catch (IllegalAccessException e) {
            throw new AssertionError(e);
        }
    }

    private static Map<String, Method> methods(Class<?> type) {
        Map<String, Method> methods = new HashMap<>();
        for (Method method : type.getDeclaredMethods()) {
            if (!Modifier.isPrivate(method.getModifiers())) {
                methods.put(method.getName(), method);
            }
        }
        return methods;
    }

    @Override
    public String toString() {
        return name + arguments.toString().replace('[', '(').replace(']', ')');
    }
}
