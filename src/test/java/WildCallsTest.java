import java.lang.reflect.InvocationTargetException;
import java.lang.reflect.Method;
import java.lang.reflect.Modifier;
import java.util.Arrays;
import java.util.Comparator;
import java.util.List;

/**
 * Calls in any order with any arguments: none throws an exception that the document does not name there, and those
 * that throw change nothing, for a twin that was spared them looks the same.
 */
public final class WildCallsTest {
    /** What later calls answer is free; a look takes fewer than 200, and each wild call goes with one for the state. */
    private static final int CALLS = 512;
    private static final int WILD_CALLS = 150;
    private static final int[] NUMBERS = {0, 1, 2, 3, 4, 5, 6, 7, 8, 13, 22, 23, 24, 25, 26, 27, 64, 100, 101, 512,
        -1, -2, -7, 1 << 30, Integer.MAX_VALUE, Integer.MIN_VALUE};
    private static final List<String> CHANGING = List.of("start", "begin", "roll", "play", "move", "undo", "finish",
            "offer", "take", "drop", "beaver", "setRate", "seat");
    private static final Method[] METHODS = methods();
    private final Checks checks = new Checks();
    private long seed = 1;
    private int ends;
    private int made;

    private static Method[] methods() {
        Method[] all = Arrays.stream(Gammonry.class.getDeclaredMethods())
                .filter(method -> Modifier.isPublic(method.getModifiers())).toArray(Method[]::new);
        Arrays.sort(all, Comparator.comparing(Method::getName));
        return all;
    }

    private static Method method(String name) {
        return Arrays.stream(METHODS).filter(m -> m.getName().equals(name)).findFirst().orElseThrow();
    }

    private int next(int bound) {
        seed = seed * 6364136223846793005L + 1442695040888963407L;
        return (int) ((seed >>> 33) % bound);
    }

    private Object argument(Class<?> type, boolean isTame) {
        if (type == boolean.class) {
            return next(2) == 0;
        }
        if (type == char.class) {
            return isTame ? "bnh".charAt(next(3)) : (char) next(300);
        }
        return isTame ? next(7) : NUMBERS[next(NUMBERS.length)];
    }

    private Object[] arguments(Method method) {
        boolean isTame = next(4) > 0;
        Object[] arguments = new Object[method.getParameterCount()];
        for (int i = 0; i < arguments.length; i++) {
            arguments[i] = argument(method.getParameterTypes()[i], isTame);
        }
        return arguments;
    }

    private Object answer(Gammonry x, Method method, Object... arguments) {
        made++;
        try {
            return method.invoke(x, arguments);
        } catch (InvocationTargetException e) {
            return e.getCause();
        } catch (IllegalAccessException e) {
            throw new IllegalStateException(e);
        }
    }

    /** All that can be seen; the last calls change it. */
    private String look(Gammonry x) {
        StringBuilder text = new StringBuilder();
        for (Method method : METHODS) {
            boolean isLook = !CHANGING.contains(method.getName()) && !method.getName().equals("deep");
            for (int i = 0; isLook && i < (method.getParameterCount() == 0 ? 1 : 6); i++) {
                Object[] arguments = new Object[method.getParameterCount()];
                Arrays.fill(arguments, i);
                text.append(method.getName()).append(i).append(answer(x, method, arguments)).append('\n');
            }
            for (int point = 0; method.getName().equals("men") && point < 52; point++) {
                text.append(answer(x, method, point / 26, point % 26)).append(' ');
            }
        }
        text.append(answer(x, method("undo"))).append(answer(x, method("setRate"), 25));
        return text.append(answer(x, method("seat"), 3)).toString();
    }

    /** A helping hand, for wild calls alone seldom come to the end of a game. */
    private Method helpful(char state) {
        return method(state == '-' ? (next(2) == 0 ? "start" : "begin") : state == 'd' ? "roll"
                : state == 't' ? "take" : next(2) == 0 ? "play" : "finish");
    }

    private void run(int number) {
        Gammonry x = new Gammonry();
        Gammonry twin = new Gammonry();
        made = 0;
        int refused = 0;
        char state = '-';
        int length = 1 + next(WILD_CALLS);
        for (int call = 0; call < length; call++) {
            Method method = next(5) > 0 ? helpful(state) : METHODS[next(METHODS.length)];
            Object[] arguments = arguments(method);
            Object answer = answer(x, method, arguments);
            String what = "run " + number + ": " + method.getName() + Arrays.toString(arguments);
            if (answer instanceof Throwable) {
                refused++;
                boolean isDue = Arrays.asList(method.getExceptionTypes()).contains(answer.getClass());
                checks.same(what + " threw " + answer + ", which the document allows", isDue, true);
            } else {
                made--;
                checks.same(what + " of a twin", answer(twin, method, arguments), answer);
            }
            char before = state;
            state = (char) answer(x, method("state"));
            ends += before != '-' && state == '-' ? 1 : 0;
        }
        checks.same("run " + number + ": isSound", answer(x, method("isSound")), true);
        String seen = look(x);
        checks.same("run " + number + " has calls that are too many", made > CALLS, false);
        checks.same("run " + number + " with " + refused + " refused calls", seen, look(twin));
    }

    public static void main(String[] args) {
        WildCallsTest test = new WildCallsTest();
        for (int number = 0; number < 12000; number++) {
            test.run(number);
        }
        System.out.println("games ended " + test.ends);
        test.checks.same("games ended", test.ends > 100, true);
        test.checks.end("WildCallsTest");
    }
}
