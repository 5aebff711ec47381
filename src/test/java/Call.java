import java.lang.reflect.InvocationTargetException;
import java.lang.reflect.Method;
import java.util.HashMap;
import java.util.Map;

/** A call told as a text, such as "both(2, 0, 1, 1)"; NONE, BAD, MIN, MAX (of its int or long) stand for numbers. */
final class Call {
    private static final Map<String, Call> TOLD = new HashMap<>();

    final String name;
    private final Method method;
    private final Object[] numbers;

    private Call(String text) {
        name = text.substring(0, text.indexOf('('));
        String inside = text.substring(text.indexOf('(') + 1, text.lastIndexOf(')')).trim();
        String[] told = inside.isEmpty() ? new String[0] : inside.split(",\\s*");
        method = methodOf(name);
        Class<?>[] types = method.getParameterTypes();
        if (types.length != told.length) {
            throw new IllegalArgumentException(text);
        }
        numbers = new Object[told.length];
        for (int i = 0; i < told.length; i++) {
            numbers[i] = types[i] == long.class ? (Object) longOf(told[i]) : (Object) intOf(told[i]);
        }
    }

    static Call of(String text) {
        return TOLD.computeIfAbsent(text, Call::new);
    }

    private static Method methodOf(String name) {
        for (Method m : FreeParts.class.getDeclaredMethods()) {
            if (m.getName().equals(name) && java.lang.reflect.Modifier.isPublic(m.getModifiers())) {
                return m;
            }
        }
        throw new IllegalArgumentException(name);
    }

    private static long longOf(String told) {
        switch (told) {
            case "MIN": return Long.MIN_VALUE;
            case "MAX": return Long.MAX_VALUE;
            default: return Long.parseLong(told);
        }
    }

    private static int intOf(String told) {
        switch (told) {
            case "MIN": return Integer.MIN_VALUE;
            case "MAX": return Integer.MAX_VALUE;
            case "NONE": return FreeParts.NONE;
            case "BAD": return FreeParts.BAD;
            default: return Integer.parseInt(told);
        }
    }

    /** No call may throw: if one does, that comes out of here, and the test fails. */
    long on(FreeParts x) {
        try {
            return ((Number) method.invoke(x, numbers)).longValue();
        } catch (InvocationTargetException e) {
            throw new IllegalStateException(name + java.util.Arrays.toString(numbers) + " threw", e.getCause());
        } catch (IllegalAccessException e) {
            throw new IllegalStateException(e);
        }
    }
}
