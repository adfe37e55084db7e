import java.io.IOException;
import java.io.InputStream;
import java.lang.reflect.InvocationTargetException;
import java.lang.reflect.Method;
import java.lang.reflect.Modifier;
import java.nio.charset.StandardCharsets;
import java.nio.file.Files;
import java.nio.file.Path;
import java.util.ArrayList;
import java.util.Arrays;
import java.util.List;
import java.util.Map;
import java.util.Set;
import java.util.TreeMap;
import java.util.TreeSet;
import java.util.regex.Matcher;
import java.util.regex.Pattern;

/** README.md works as it is written: its first program, its pieces with their answers, and its list of calls. */
public final class ReadmeTest {
    private static final Checks CHECKS = new Checks();
    private static final Path FOLDER = Path.of("build", "readme");
    private static final Pattern BLOCK = Pattern.compile("```(\\w+)\n(.*?)```", Pattern.DOTALL);
    private static final Pattern CALL = Pattern.compile("(table\\.\\w+\\(.*\\)); *// (.*)");
    private static final Pattern ROW = Pattern.compile("\\| `(\\w+)\\((.*?)\\)` \\| ([-drt ]+) \\| .*? \\|(.*)\\|");
    private static final Pattern NAME = Pattern.compile("`(\\w+Exception)`");

    /** Arguments by which the calls of the list can be made; those that are not here take 0 for each. */
    private static final Map<String, Object[]> ARGUMENTS = Map.of(
            "start", new Object[] {'b', 0, false},
            "roll", new Object[] {3, 1},
            "move", new Object[] {24, 3},
            "equity", new Object[] {1, 1},
            "seat", new Object[] {3});

    private static List<String[]> blocks(String page) {
        List<String[]> blocks = new ArrayList<>();
        Matcher matcher = BLOCK.matcher(page);
        while (matcher.find()) {
            blocks.add(new String[] {matcher.group(1), matcher.group(2)});
        }
        return blocks;
    }

    /** What a command prints, its errors included. */
    private static String printed(String command) throws IOException, InterruptedException {
        Process process = new ProcessBuilder(command.split(" ")).redirectErrorStream(true).start();
        try (InputStream out = process.getInputStream()) {
            String text = new String(out.readAllBytes(), StandardCharsets.UTF_8);
            CHECKS.same(command + " ended with " + text, process.waitFor(), 0);
            return text;
        }
    }

    /** The first three blocks: a program, how it is run, and what it prints. */
    private static void firstProgram(List<String[]> blocks) throws IOException, InterruptedException {
        CHECKS.same("first blocks", blocks.get(0)[0] + blocks.get(1)[0] + blocks.get(2)[0], "javashtext");
        Files.writeString(Path.of("build", "Example.java"), blocks.get(0)[1]);
        StringBuilder text = new StringBuilder();
        for (String command : blocks.get(1)[1].split("\n")) {
            text.append(printed(command));
        }
        CHECKS.same("the first program", text.toString(), blocks.get(2)[1]);
    }

    /** A piece as a program that prints the answers of its calls, a line each; what is due goes into the list. */
    private static String program(String name, String piece, List<String> calls, List<String> due) {
        StringBuilder text = new StringBuilder("public class " + name + " {\n");
        text.append("public static void main(String[] args) {\n");
        for (String line : piece.split("\n")) {
            Matcher matcher = CALL.matcher(line);
            if (matcher.matches()) {
                String call = matcher.group(1);
                calls.add(call);
                due.add(matcher.group(2).replaceFirst(":.*", ""));
                text.append("try { System.out.println(" + call + "); } catch (RuntimeException e) {");
                text.append("System.out.println(\"throws \" + e.getClass().getSimpleName()); }\n");
            } else {
                text.append(line).append('\n');
            }
        }
        return text.append("}\n}\n").toString();
    }

    private static void pieces(List<String[]> blocks) throws IOException, InterruptedException {
        Files.createDirectories(FOLDER);
        int number = 0;
        for (String[] block : blocks.subList(3, blocks.size())) {
            if (block[0].equals("java")) {
                number++;
                piece("Piece" + number, block[1]);
            }
        }
        CHECKS.same("some pieces", number > 0, true);
    }

    private static void piece(String name, String piece) throws IOException, InterruptedException {
        List<String> calls = new ArrayList<>();
        List<String> due = new ArrayList<>();
        Path file = FOLDER.resolve(name + ".java");
        Files.writeString(file, program(name, piece, calls, due));
        printed("javac -d " + FOLDER + " src/main/java/Gammonry.java " + file);
        String[] got = printed("java -cp " + FOLDER + " " + name).split("\n");
        CHECKS.same(name + " answers", got.length, due.size());
        for (int i = 0; i < Math.min(got.length, due.size()); i++) {
            CHECKS.same(name + ": " + calls.get(i), got[i], due.get(i));
        }
    }

    private static Map<String, Method> face() {
        Map<String, Method> face = new TreeMap<>();
        for (Method method : Gammonry.class.getDeclaredMethods()) {
            if (Modifier.isPublic(method.getModifiers())) {
                face.put(method.getName(), method);
            }
        }
        return face;
    }

    /** A new object for money in this state. */
    private static Gammonry inState(char state) {
        Gammonry table = new Gammonry();
        table.start('b', 0, false);
        if (state != '-') {
            table.begin(0);
        }
        if (state == 'r') {
            table.roll(3, 1);
        }
        if (state == 't') {
            table.offer();
        }
        CHECKS.same("state", table.state(), state);
        return table;
    }

    private static boolean isRefused(Method method, Gammonry table) throws IllegalAccessException {
        Object[] arguments = new Object[method.getParameterCount()];
        Arrays.fill(arguments, 0);
        try {
            method.invoke(table, ARGUMENTS.getOrDefault(method.getName(), arguments));
            return false;
        } catch (InvocationTargetException e) {
            return e.getCause().getClass() == IllegalStateException.class;
        }
    }

    private static void row(Method method, Matcher row) throws IllegalAccessException {
        String name = method.getName();
        int parameters = row.group(2).isEmpty() ? 0 : row.group(2).split(", ").length;
        CHECKS.same(name + " parameters", parameters, method.getParameterCount());
        List<String> listed = new ArrayList<>();
        Matcher names = NAME.matcher(row.group(4));
        while (names.find()) {
            listed.add(names.group(1));
        }
        List<String> thrown = new ArrayList<>();
        for (Class<?> type : method.getExceptionTypes()) {
            thrown.add(type.getSimpleName());
        }
        CHECKS.same(name + " throws", listed, thrown);
        for (char state : "-drt".toCharArray()) {
            boolean isFree = row.group(3).indexOf(state) >= 0;
            CHECKS.same(name + " is refused at " + state, isRefused(method, inState(state)), !isFree);
        }
    }

    private static void listOfCalls(String page) throws IllegalAccessException {
        Map<String, Method> face = face();
        Set<String> told = new TreeSet<>();
        Matcher rows = ROW.matcher(page);
        while (rows.find()) {
            Method method = face.get(rows.group(1));
            CHECKS.same(rows.group(1) + " is a call, told once", method != null && told.add(rows.group(1)), true);
            if (method != null) {
                row(method, rows);
            }
        }
        CHECKS.same("calls in the list", told, face.keySet());
    }

    /** Each test of the project is named there. */
    private static void tests(String page) throws IOException {
        try (var files = Files.list(Path.of("src", "test", "java"))) {
            for (Path file : files.toList()) {
                String name = file.getFileName().toString().replace(".java", "");
                CHECKS.same(name + " is named", !name.endsWith("Test") || page.contains("`" + name + "`"), true);
            }
        }
    }

    public static void main(String[] args) throws Exception {
        String page = Files.readString(Path.of("README.md"));
        List<String[]> blocks = blocks(page);
        firstProgram(blocks);
        pieces(blocks);
        listOfCalls(page);
        tests(page);
        CHECKS.end("ReadmeTest");
    }
}
