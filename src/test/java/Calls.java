import java.lang.reflect.InvocationTargetException;
import java.lang.reflect.Method;
import java.util.HashMap;
import java.util.Map;

/** Calls told as texts, as "set(0, 1, MAX)"; MIN and MAX are the least and the greatest int. */
final class Calls {
    private static final Map<String, Method> ACTS = acts();

    private Calls() {
    }

    private static Map<String, Method> acts() {
        Map<String, Method> acts = new HashMap<>();
        for (Method m : PageTurns.class.getMethods()) {
            if (m.getDeclaringClass() == PageTurns.class) {
                acts.put(m.getName(), m);
            }
        }
        return acts;
    }

    static int call(PageTurns x, String text) {
        int open = text.indexOf('(');
        String inside = text.substring(open + 1, text.length() - 1).trim();
        String[] told = inside.isEmpty() ? new String[0] : inside.split(", *");
        Object[] numbers = new Object[told.length];
        for (int i = 0; i < told.length; i++) {
            numbers[i] = number(told[i]);
        }
        try {
            return (Integer) ACTS.get(text.substring(0, open)).invoke(x, numbers);
        } catch (InvocationTargetException e) {
            throw new IllegalStateException(text + " threw", e.getCause());
        } catch (IllegalAccessException e) {
            throw new IllegalStateException(text, e);
        }
    }

    private static int number(String told) {
        switch (told) {
            case "MIN": return Integer.MIN_VALUE;
            case "MAX": return Integer.MAX_VALUE;
            default: return Integer.parseInt(told);
        }
    }
}
