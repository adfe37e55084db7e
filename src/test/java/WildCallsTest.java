import java.lang.reflect.InvocationTargetException;
import java.lang.reflect.Method;
import java.util.Arrays;
import java.util.Comparator;

/** Calls in any order with any arguments: only the document's exceptions, and none of them changes anything. */
public final class WildCallsTest {
    private static final int CALLS = 512;
    private static final int[] NUMBERS = {0, 1, 2, 3, 4, 5, 6, 7, 8, 13, 22, 23, 24, 25, 26, 27, 64, 100, 101, 512,
        -1, -2, -7, 1 << 30, Integer.MAX_VALUE, Integer.MIN_VALUE};
    private static final Method[] METHODS = methods();
    private final Checks checks = new Checks();
    private long seed = 1;
    private int ends;

    private static Method[] methods() {
        Method[] all = Arrays.stream(Gammonry.class.getDeclaredMethods())
                .filter(method -> java.lang.reflect.Modifier.isPublic(method.getModifiers())).toArray(Method[]::new);
        Arrays.sort(all, Comparator.comparing(Method::getName));
        return all;
    }

    private int next(int bound) {
        seed = seed * 6364136223846793005L + 1442695040888963407L;
        return (int) ((seed >>> 33) % bound);
    }

    private Object argument(Class<?> type, boolean isTame) {
        if (type == boolean.class) {
            return next(2) == 0;
        }
        if (type == char.class) {
            return isTame ? "bnh".charAt(next(3)) : (char) next(300);
        }
        return isTame ? next(7) : NUMBERS[next(NUMBERS.length)];
    }

    /** All that can be seen by calls that change nothing. */
    private static String view(Gammonry x) {
        StringBuilder text = new StringBuilder();
        for (Method method : METHODS) {
            boolean isLook = !"start begin roll play move undo finish offer take drop beaver setRate seat deep"
                    .contains(method.getName());
            for (int i = 0; isLook && i < (method.getParameterCount() == 0 ? 1 : 6); i++) {
                Object[] arguments = new Object[method.getParameterCount()];
                Arrays.fill(arguments, i);
                text.append(method.getName()).append(i).append(answer(x, method, arguments)).append('\n');
            }
            for (int point = 0; method.getName().equals("men") && point < 52; point++) {
                text.append(answer(x, method, new Object[] {point / 26, point % 26})).append(' ');
            }
        }
        return text.toString();
    }

    private static Object answer(Gammonry x, Method method, Object[] arguments) {
        try {
            return method.invoke(x, arguments);
        } catch (InvocationTargetException e) {
            return e.getCause();
        } catch (IllegalAccessException e) {
            throw new IllegalStateException(e);
        }
    }

    private void run(boolean isViewed) {
        Gammonry x = new Gammonry();
        for (int call = 0; call < CALLS; call++) {
            Method method = METHODS[next(METHODS.length)];
            char before = x.state();
            if (next(3) > 0) {
                // A helping hand, for wild calls alone seldom come to the end of a game.
                String name = before == '-' ? (next(2) == 0 ? "start" : "begin") : before == 'd' ? "roll"
                        : before == 't' ? "take" : next(2) == 0 ? "play" : "finish";
                method = Arrays.stream(METHODS).filter(m -> m.getName().equals(name)).findFirst().orElseThrow();
            }
            boolean isTame = next(4) > 0;
            Object[] arguments = new Object[method.getParameterCount()];
            for (int i = 0; i < arguments.length; i++) {
                arguments[i] = argument(method.getParameterTypes()[i], isTame);
            }
            String seen = isViewed ? view(x) : "";
            Object answer = answer(x, method, arguments);
            String what = method.getName() + Arrays.toString(arguments);
            if (answer instanceof Throwable) {
                boolean isDue = Arrays.asList(method.getExceptionTypes()).contains(answer.getClass());
                checks.same(what + " threw " + answer, isDue, true);
                checks.same(what + " changed something", isViewed && !seen.equals(view(x)), false);
            } else {
                checks.same(what + " sound", x.isSound(), true);
            }
            ends += before != '-' && x.state() == '-' ? 1 : 0;
        }
    }

    public static void main(String[] args) {
        WildCallsTest test = new WildCallsTest();
        for (int number = 0; number < 1500; number++) {
            test.run(number % 30 == 0);
        }
        System.out.println("games ended " + test.ends);
        test.checks.same("games ended", test.ends > 100, true);
        test.checks.end("WildCallsTest");
    }
}
