import java.lang.reflect.InvocationTargetException;
import java.lang.reflect.Method;
import java.lang.reflect.Modifier;
import java.util.HashMap;
import java.util.Map;

/** Calls told by texts: "place 0 7 1" is place(0, 7, 1); min and max are the least and the greatest int. */
final class Calls {
    private static final Map<String, Method> METHODS = new HashMap<>();

    static {
        for (Method m : WanderingMoons.class.getDeclaredMethods()) {
            if (Modifier.isPublic(m.getModifiers())) {
                METHODS.put(m.getName(), m);
            }
        }
    }

    private Calls() {
    }

    /** The answer as a text, "nothing" of a method without one, or the name of what it throws behind "throws.". */
    static String answer(WanderingMoons sky, String call) {
        String[] words = call.split(" ");
        Object[] values = new Object[words.length - 1];
        for (int k = 0; k < values.length; k++) {
            values[k] = number(words[k + 1]);
        }
        try {
            Object got = METHODS.get(words[0]).invoke(sky, values);
            return got == null ? "nothing" : got.toString();
        } catch (InvocationTargetException e) {
            return "throws." + e.getCause().getClass().getSimpleName();
        } catch (IllegalAccessException e) {
            throw new IllegalStateException(e);
        }
    }

    private static int number(String word) {
        return switch (word) {
            case "min" -> Integer.MIN_VALUE;
            case "max" -> Integer.MAX_VALUE;
            default -> Integer.parseInt(word);
        };
    }

    /** Each call and its answer, one behind the other on the same sky: "light 0", "35000", .. */
    static void due(String what, WanderingMoons sky, String... callsAndAnswers) {
        for (int k = 0; k + 1 < callsAndAnswers.length; k += 2) {
            String call = callsAndAnswers[k];
            Check.same(what + ": " + call, answer(sky, call), callsAndAnswers[k + 1]);
        }
    }
}
