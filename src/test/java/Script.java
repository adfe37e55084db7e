import java.lang.reflect.InvocationTargetException;
import java.lang.reflect.Method;

/**
 * Runs a text of calls against a new object, a line each: "men 0 24 = 2" is a call with the answer that is due,
 * "turn ! IllegalStateException" one with the exception, "begin 0" one whose answer does not matter.
 * Two lines stand for several calls: "turns 31#2 66#0" rolls and plays by number, "rush 3" lets the side on roll
 * win a game of the variant 'h' by this kind.
 */
final class Script {
    private final Checks checks;
    private final String name;
    private final Gammonry table = new Gammonry();

    private Script(Checks checks, String name) {
        this.checks = checks;
        this.name = name;
    }

    static void run(Checks checks, String name, String text) {
        Script script = new Script(checks, name);
        int number = 0;
        for (String line : text.split("\n")) {
            number++;
            String call = line.replaceFirst("//.*", "").trim();
            if (!call.isEmpty()) {
                script.line(number, call);
            }
        }
    }

    private void line(int number, String text) {
        String[] words = text.split(" +");
        if (words[0].equals("turns")) {
            turns(words);
        } else if (words[0].equals("rush")) {
            rush(words[1]);
        } else {
            call(name + " line " + number + " [" + text + "]", words);
        }
    }

    private void call(String what, String[] words) {
        int end = 1;
        while (end < words.length && !words[end].equals("=") && !words[end].equals("!")) {
            end++;
        }
        String got = answer(words, end);
        if (end < words.length) {
            checks.same(what, got, words[end].equals("!") ? "! " + words[end + 1] : words[end + 1]);
        } else {
            checks.same(what + " throws", got.startsWith("!"), false);
        }
    }

    private String answer(String[] words, int end) {
        for (Method method : Gammonry.class.getDeclaredMethods()) {
            if (method.getName().equals(words[0]) && method.getParameterCount() == end - 1) {
                return answer(method, words);
            }
        }
        throw new IllegalArgumentException("no call " + words[0]);
    }

    private String answer(Method method, String[] words) {
        Object[] arguments = new Object[method.getParameterCount()];
        for (int i = 0; i < arguments.length; i++) {
            Class<?> type = method.getParameterTypes()[i];
            String word = words[i + 1];
            arguments[i] = type == char.class ? (Object) word.charAt(0)
                    : type == boolean.class ? (Object) Boolean.valueOf(word) : (Object) Integer.valueOf(word);
        }
        try {
            return String.valueOf(method.invoke(table, arguments));
        } catch (InvocationTargetException e) {
            return "! " + e.getCause().getClass().getSimpleName();
        } catch (IllegalAccessException e) {
            throw new IllegalStateException(e);
        }
    }

    private void turns(String[] words) {
        for (int i = 1; i < words.length; i++) {
            table.roll(words[i].charAt(0) - '0', words[i].charAt(1) - '0');
            table.play(Integer.parseInt(words[i].substring(3)));
        }
    }

    private void rush(String kind) {
        int winner = table.turn();
        int one = kind.equals("1") ? 4 : kind.equals("2") ? 6 : 2;
        int other = kind.equals("3") ? 1 : one;
        for (int i = 0; i < 40 && table.state() != '-'; i++) {
            boolean isWinner = table.turn() == winner;
            int count = isWinner ? table.roll(6, 6) : table.roll(one, other);
            table.play(isWinner ? table.best() : count - 1);
        }
    }
}
