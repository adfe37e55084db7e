import java.lang.reflect.InvocationTargetException;
import java.lang.reflect.Method;
import java.lang.reflect.Modifier;
import java.util.Arrays;

/**
 * Runs a text of calls against a new object, a line each: "men 0 24 = 2" is a call with the answer that is due,
 * "turn ! IllegalStateException" one with the exception, "begin 0" one whose answer does not matter. A char that
 * is no letter is told by its number, as #65535. Some lines stand for several calls:
 * "turns 31#2 66#0" rolls and makes plays by number, "again 5 66#0" does so five times,
 * "go 31 8/5 6/5" rolls and finishes a play of these moves ("25/20" from the bar, "3/0" off, "go 65" none),
 * "stand 0 24:1 6:2" asks for all points of a side, on which there are just these men,
 * "rush 3" lets the side on roll win a game of the variant 'h' by this kind.
 */
final class Script {
    /** What later calls answer is free. */
    private static final int CALLS = 512;

    private final Checks checks;
    private final String name;
    private final Gammonry table = new Gammonry();
    private int made = 0;

    private Script(Checks checks, String name) {
        this.checks = checks;
        this.name = name;
    }

    static void run(Checks checks, String name, String text) {
        Script script = new Script(checks, name);
        int number = 0;
        for (String line : text.split("\n")) {
            number++;
            String call = line.replaceFirst("//.*", "").trim();
            if (!call.isEmpty()) {
                script.line(name + " line " + number + " [" + call + "]", call.split(" +"));
            }
        }
        checks.same(name + " has calls that are too many", script.made > CALLS, false);
    }

    private void line(String what, String[] words) {
        switch (words[0]) {
            case "turns" -> turns(what, words, 1);
            case "again" -> {
                for (int i = 0; i < Integer.parseInt(words[1]); i++) {
                    turns(what, words, 2);
                }
            }
            case "go" -> go(what, words);
            case "stand" -> stand(what, words);
            case "rush" -> rush(what, words[1]);
            default -> due(what, words);
        }
    }

    private void due(String what, String[] words) {
        int end = 1;
        while (end < words.length && !words[end].equals("=") && !words[end].equals("!")) {
            end++;
        }
        String[] call = Arrays.copyOf(words, end);
        if (end < words.length) {
            checks.same(what, answer(call), words[end].equals("!") ? "! " + words[end + 1] : words[end + 1]);
        } else {
            must(what, call);
        }
    }

    /** A call that must not throw. */
    private String must(String what, String... call) {
        String got = answer(call);
        checks.same(what + " throws at " + String.join(" ", call), got.startsWith("!"), false);
        return got;
    }

    private String answer(String... call) {
        for (Method method : Gammonry.class.getDeclaredMethods()) {
            boolean isFace = Modifier.isPublic(method.getModifiers());
            if (isFace && method.getName().equals(call[0]) && method.getParameterCount() == call.length - 1) {
                return answer(method, call);
            }
        }
        throw new IllegalArgumentException("no call " + String.join(" ", call));
    }

    private String answer(Method method, String[] call) {
        made++;
        Object[] arguments = new Object[method.getParameterCount()];
        for (int i = 0; i < arguments.length; i++) {
            arguments[i] = argument(method.getParameterTypes()[i], call[i + 1]);
        }
        try {
            return String.valueOf(method.invoke(table, arguments));
        } catch (InvocationTargetException e) {
            return "! " + e.getCause().getClass().getSimpleName();
        } catch (IllegalAccessException e) {
            throw new IllegalStateException(e);
        }
    }

    private static Object argument(Class<?> type, String word) {
        if (type == char.class) {
            return word.startsWith("#") ? (char) Integer.parseInt(word.substring(1)) : word.charAt(0);
        }
        return type == boolean.class ? (Object) Boolean.valueOf(word) : (Object) Integer.valueOf(word);
    }

    private void turns(String what, String[] words, int first) {
        for (int i = first; i < words.length; i++) {
            must(what, "roll", words[i].substring(0, 1), words[i].substring(1, 2));
            must(what, "play", words[i].substring(3));
        }
    }

    private void go(String what, String[] words) {
        int one = words[1].charAt(0) - '0';
        int other = words[1].charAt(1) - '0';
        must(what, "roll", "" + one, "" + other);
        for (int i = 2; i < words.length; i++) {
            String[] points = words[i].split("/");
            int from = Integer.parseInt(points[0]);
            int die = from - Integer.parseInt(points[1]);
            if (die != one && die != other) {
                // Off, by a die that is greater than the point.
                die = from <= Math.min(one, other) ? Math.min(one, other) : Math.max(one, other);
            }
            must(what, "move", "" + from, "" + die);
        }
        must(what, "finish");
    }

    private void stand(String what, String[] words) {
        int[] due = new int[26];
        for (int i = 2; i < words.length; i++) {
            String[] parts = words[i].split(":");
            due[Integer.parseInt(parts[0])] = Integer.parseInt(parts[1]);
        }
        for (int point = 0; point < due.length; point++) {
            checks.same(what + " men on " + point, must(what, "men", words[1], "" + point), "" + due[point]);
        }
    }

    private void rush(String what, String kind) {
        String winner = must(what, "turn");
        String one = kind.equals("1") ? "4" : kind.equals("2") ? "6" : "2";
        String other = kind.equals("3") ? "1" : one;
        for (int i = 0; i < 40 && !must(what, "state").equals("-"); i++) {
            if (must(what, "turn").equals(winner)) {
                must(what, "roll", "6", "6");
                must(what, "play", must(what, "best"));
            } else {
                int count = Integer.parseInt(must(what, "roll", one, other));
                must(what, "play", "" + (count - 1));
            }
        }
    }
}
