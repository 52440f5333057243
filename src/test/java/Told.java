import java.lang.reflect.InvocationTargetException;
import java.lang.reflect.Method;
import java.util.Map;

/** Calls and numbers told in words, as "lay", "0", "1", "2", "0", "3" and "NONE". */
final class Told {
    private static final Map<String, Integer> NAMES = Map.of("UNKNOWN", -1, "BAD", -2, "LATE", -3, "FULL", -4,
            "NONE", -9, "OFF", 100, "MIN", Integer.MIN_VALUE, "MAX", Integer.MAX_VALUE);

    private Told() {
    }

    /** What a call answers: its name, then its arguments. */
    static long answer(StrawCoats x, String[] words) throws InvocationTargetException {
        for (Method m : StrawCoats.class.getMethods()) {
            if (m.getName().equals(words[0]) && m.getParameterCount() == words.length - 1) {
                try {
                    return ((Number) m.invoke(x, arguments(m, words))).longValue();
                } catch (IllegalAccessException e) {
                    throw new IllegalStateException(e);
                }
            }
        }
        throw new IllegalArgumentException("no such call: " + String.join(" ", words));
    }

    private static Object[] arguments(Method m, String[] words) {
        Object[] all = new Object[words.length - 1];
        for (int k = 0; k < all.length; k++) {
            Class<?> type = m.getParameterTypes()[k];
            String word = words[k + 1];
            if (type == boolean.class) {
                all[k] = Boolean.valueOf(word);
            } else if (type == long.class) {
                all[k] = number(word);
            } else {
                all[k] = (int) number(word);
            }
        }
        return all;
    }

    static long number(String word) {
        return NAMES.containsKey(word) ? NAMES.get(word) : Long.decode(word);
    }
}
