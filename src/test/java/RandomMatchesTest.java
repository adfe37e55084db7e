import java.util.ArrayList;
import java.util.List;

/** Matches of the variant 'h' with doubles and players at the table, held against a second plain writing of the rules. */
public final class RandomMatchesTest {
    /** What later calls answer is free; a match that would go beyond is left in the middle of a game. */
    private static final int CALLS = 512;
    private static final int LAST_CALLS = 40;
    private final Checks checks = new Checks();
    private long seed;
    private Gammonry table;
    private String name;
    private int calls;

    private int length;
    private boolean isJacoby;
    /** The points of both sides ahead of each game, and behind the last one. */
    private List<int[]> scores;
    private int cube;
    private int owner;
    private int won;
    private int side;
    /** The box, the captain, and the line. */
    private final List<Integer> seats = new ArrayList<>();
    private long[] accounts;
    private int crawfords;
    private int beavers;
    private int[] kinds = new int[4];

    private int next(int bound) {
        seed = seed * 6364136223846793005L + 1442695040888963407L;
        return (int) ((seed >>> 33) % bound);
    }

    private void same(String what, Object got, Object due) {
        calls++;
        checks.same(name + " call " + calls + ": " + what, got, due);
    }

    private void refused(String what, Class<? extends RuntimeException> due, Checks.Call call) {
        calls++;
        checks.fails(name + " call " + calls + ": " + what, due, call);
    }

    private int[] score() {
        return scores.get(scores.size() - 1);
    }

    private boolean isOver() {
        return length > 0 && (score()[0] >= length || score()[1] >= length);
    }

    private boolean needsOne(int game) {
        return scores.get(game)[0] == length - 1 || scores.get(game)[1] == length - 1;
    }

    /** Whether the game that is on, or comes next, is the one by Crawford's rule. */
    private boolean isCrawford() {
        int game = scores.size() - 1;
        boolean isIt = length > 0 && game > 0 && needsOne(game);
        for (int before = 0; before < game; before++) {
            isIt = isIt && !needsOne(before);
        }
        return isIt;
    }

    private void seat() {
        int players = 3 + next(4);
        same("seat", table.seat(players), seats.size());
        seats.clear();
        for (int player = 0; player < players; player++) {
            seats.add(player);
        }
        accounts = new long[players];
    }

    private void start() {
        length = next(2) == 0 ? 0 : 1 + next(5);
        if (length > 0 && !seats.isEmpty()) {
            refused("start", IllegalStateException.class, () -> table.start('h', length, false));
            length = 0;
        }
        isJacoby = next(2) == 0;
        same("start", table.start('h', length, isJacoby), 3);
        scores = new ArrayList<>();
        scores.add(new int[2]);
        if (length == 0 && next(3) == 0) {
            seat();
        }
    }

    private boolean canOffer() {
        return cube < 64 && (owner == -1 || owner == side) && !isCrawford();
    }

    /** Doubles, if that can be; returns false if the game ends by it. */
    private boolean offer() {
        if (!canOffer()) {
            refused("offer", UnsupportedOperationException.class, () -> table.offer());
            return true;
        }
        same("offer", table.offer(), 2 * cube);
        same("cube", table.cube(), cube);
        same("turn", table.turn(), 1 - side);
        int answer = next(5);
        if (answer == 0) {
            same("drop", table.drop(), cube);
            end(side, 1);
            return false;
        }
        if (answer < 3 && (length > 0 || cube > 16)) {
            refused("beaver", UnsupportedOperationException.class, () -> table.beaver());
        }
        if (answer < 3 && length == 0 && cube <= 16) {
            beavers++;
            cube = 4 * cube;
            same("beaver", table.beaver(), cube);
        } else {
            cube = 2 * cube;
            same("take", table.take(), cube);
        }
        owner = 1 - side;
        return true;
    }

    private void end(int winner, int kind) {
        kinds[kind]++;
        won = length == 0 && isJacoby && cube == 1 ? 1 : kind;
        int points = cube * won;
        int[] after = score().clone();
        after[winner] += points;
        scores.add(after);
        if (seats.isEmpty()) {
            return;
        }
        for (int other = 1; other < seats.size(); other++) {
            accounts[seats.get(other)] += winner == 1 ? points : -points;
            accounts[seats.get(0)] += winner == 0 ? points : -points;
        }
        int leaver = seats.remove(winner == 1 ? 0 : 1);
        seats.add(leaver);
    }

    private int[] men(int owner) {
        int[] men = new int[26];
        for (int point = 0; point < 26; point++) {
            men[point] = table.men(owner, point);
            calls++;
        }
        return men;
    }

    private boolean turn() {
        if (next(3) == 0 && !offer()) {
            return false;
        }
        calls += 2;
        int count = table.roll(1 + next(6), 1 + next(6));
        table.play(next(3) == 0 ? next(count) : table.best());
        calls++;
        if (table.state() == '-') {
            int[] loser = men(1 - side);
            int back = 0;
            for (int point = 19; point <= 25; point++) {
                back += loser[point];
            }
            end(side, loser[0] > 0 ? 1 : back > 0 ? 3 : 2);
            return false;
        }
        side = 1 - side;
        same("turn", table.turn(), side);
        return true;
    }

    private void standings() {
        same("score(0)", table.score(0), score()[0]);
        same("score(1)", table.score(1), score()[1]);
        same("won", table.won(), won);
        same("cube", table.cube(), cube);
        same("owner", table.owner(), owner);
        same("isOver", table.isOver(), isOver());
        same("isSound", table.isSound(), true);
        for (int place = 0; place < seats.size(); place++) {
            same("account", table.account(place), accounts[place]);
            int seated = place == 0 ? table.box() : place == 1 ? table.captain() : table.inLine(place - 2);
            same("seat " + place, seated, seats.get(place));
        }
    }

    private void run(int number) {
        name = "match " + number;
        seed = number;
        table = new Gammonry();
        calls = 0;
        won = 0;
        seats.clear();
        if (next(3) == 0) {
            seat();
        }
        start();
        boolean isOn = false;
        while (calls < CALLS - 2 * LAST_CALLS) {
            if (isOver() || next(9) == 0) {
                start();
                continue;
            }
            side = next(2);
            crawfords += isCrawford() ? 1 : 0;
            same("begin", table.begin(side), isCrawford());
            cube = 1;
            owner = -1;
            isOn = true;
            while (isOn && calls < CALLS - 2 * LAST_CALLS) {
                isOn = turn();
            }
            if (!isOn) {
                standings();
            }
        }
        checks.same(name + " has calls that are too many", calls > CALLS, false);
    }

    public static void main(String[] args) {
        RandomMatchesTest test = new RandomMatchesTest();
        for (int number = 1; number <= 2000; number++) {
            test.run(number);
        }
        System.out.println("games " + test.kinds[1] + " single, " + test.kinds[2] + " double, " + test.kinds[3]
                + " triple; by Crawford's rule " + test.crawfords + ", beavers " + test.beavers);
        test.checks.same("all was met", test.crawfords > 100 && test.beavers > 100 && test.kinds[2] > 100
                && test.kinds[3] > 20, true);
        test.checks.end("RandomMatchesTest");
    }
}
