import java.lang.reflect.Constructor;
import java.lang.reflect.Field;
import java.lang.reflect.Method;
import java.lang.reflect.Modifier;
import java.util.Set;
import java.util.TreeSet;

/** The public face as the document has it, with its exceptions, and nothing beside it. */
public final class FaceTest {
    private static final String FACE = """
            int start(char, int, boolean) IllegalArgumentException IllegalStateException
            boolean begin(int) IllegalArgumentException IllegalStateException
            char state()
            int turn() IllegalStateException
            int score(int) IllegalArgumentException
            int won()
            boolean isOver() IllegalStateException
            int roll(int, int) IllegalArgumentException IllegalStateException
            int plays() IllegalStateException
            int moves(int) IllegalStateException IndexOutOfBoundsException
            int moveFrom(int, int) IllegalStateException IndexOutOfBoundsException
            int moveTo(int, int) IllegalStateException IndexOutOfBoundsException
            int play(int) IllegalStateException IndexOutOfBoundsException
            boolean move(int, int) IllegalStateException UnsupportedOperationException
            int undo() IllegalStateException
            int finish() IllegalStateException UnsupportedOperationException
            int men(int, int) IllegalArgumentException IndexOutOfBoundsException
            int pips(int) IllegalArgumentException
            int cube()
            int owner()
            int offer() IllegalStateException UnsupportedOperationException
            int take() IllegalStateException
            int drop() IllegalStateException
            int beaver() IllegalStateException UnsupportedOperationException
            int worth(int) IllegalArgumentException IllegalStateException
            int best() IllegalStateException
            int error(int) IllegalStateException IndexOutOfBoundsException
            long deep(int) IllegalStateException IndexOutOfBoundsException
            double chance() IllegalStateException UnsupportedOperationException
            int setRate(int) IllegalArgumentException
            long equity(int, int) IllegalArgumentException
            int seat(int) IllegalArgumentException IllegalStateException
            long account(int) IndexOutOfBoundsException
            int box() NoSuchElementException
            int captain() NoSuchElementException
            int inLine(int) NoSuchElementException
            int played()
            int playedAt(int) IndexOutOfBoundsException
            int rolledAt(int) IndexOutOfBoundsException
            long fairness()
            float hitShare() NoSuchElementException
            double meanError() NoSuchElementException
            boolean isSound()
            """;

    private static String text(Method method) {
        StringBuilder text = new StringBuilder(method.getReturnType() + " " + method.getName() + "(");
        for (Class<?> type : method.getParameterTypes()) {
            text.append(text.charAt(text.length() - 1) == '(' ? "" : ", ").append(type);
        }
        text.append(")");
        for (Class<?> type : method.getExceptionTypes()) {
            text.append(" ").append(type.getSimpleName());
        }
        return text.toString();
    }

    public static void main(String[] args) {
        Checks checks = new Checks();
        Set<String> due = new TreeSet<>();
        for (String line : FACE.split("\n")) {
            due.add(line);
        }
        Set<String> got = new TreeSet<>();
        Set<String> publicNames = new TreeSet<>();
        for (Method method : Gammonry.class.getDeclaredMethods()) {
            if (!Modifier.isPrivate(method.getModifiers()) && !method.isSynthetic()) {
                got.add(text(method));
                publicNames.add(method.getName());
            }
        }
        checks.same("the methods", got, due);
        for (Method method : Gammonry.class.getDeclaredMethods()) {
            boolean isPrivate = Modifier.isPrivate(method.getModifiers());
            checks.same("a private " + method.getName(), isPrivate && publicNames.contains(method.getName()), false);
        }
        Constructor<?>[] constructors = Gammonry.class.getDeclaredConstructors();
        checks.same("constructors", constructors.length, 1);
        checks.same("its parameters", constructors[0].getParameterCount(), 0);
        checks.same("it is public", Modifier.isPublic(constructors[0].getModifiers()), true);
        for (Field field : Gammonry.class.getDeclaredFields()) {
            checks.same("private " + field.getName(), Modifier.isPrivate(field.getModifiers()), true);
        }
        int modifiers = Gammonry.class.getModifiers();
        checks.same("public and final", Modifier.isPublic(modifiers) && Modifier.isFinal(modifiers), true);
        checks.end("FaceTest");
    }
}
