import java.lang.reflect.InvocationTargetException;
import java.lang.reflect.Method;
import java.util.HashMap;
import java.util.Map;

/** One object of the class, its calls by their names, counted: beyond the 512th the document promises nothing. */
final class Played {
    private static final int MOST_CALLS = 512;
    private static final Map<String, Method> METHODS = methods();

    private final TubeWords object = new TubeWords();
    private int calls = 0;

    private static Map<String, Method> methods() {
        Map<String, Method> found = new HashMap<>();
        for (Method m : TubeWords.class.getMethods()) {
            if (m.getDeclaringClass() == TubeWords.class) {
                found.put(m.getName(), m);
            }
        }
        return found;
    }

    long ask(String call, int... numbers) {
        calls++;
        if (calls > MOST_CALLS) {
            throw new IllegalStateException("the test itself makes more than " + MOST_CALLS + " calls");
        }
        Method method = METHODS.get(call);
        if (method == null || method.getParameterCount() != numbers.length) {
            throw new IllegalStateException("there is no call " + named(call, numbers));
        }
        Object[] boxed = new Object[numbers.length];
        for (int i = 0; i < numbers.length; i++) {
            boxed[i] = numbers[i];
        }
        try {
            return ((Number) method.invoke(object, boxed)).longValue();
        } catch (InvocationTargetException e) {
            throw new IllegalStateException(named(call, numbers) + " threw " + e.getCause());
        } catch (IllegalAccessException e) {
            throw new IllegalStateException(named(call, numbers) + " is not public");
        }
    }

    /** What a call tells by asked(), for those that answer 1 or a number of their own. */
    long told(String call, int... numbers) {
        long answer = ask(call, numbers);
        if (answer < 0) {
            throw new IllegalStateException(named(call, numbers) + " was refused: " + answer);
        }
        return ask("asked");
    }

    static String named(String call, int... numbers) {
        StringBuilder name = new StringBuilder(call).append('(');
        for (int i = 0; i < numbers.length; i++) {
            name.append(i == 0 ? "" : ", ").append(numbers[i]);
        }
        return name.append(')').toString();
    }
}
