import java.util.HashMap;
import java.util.List;

/** Games by a fixed row of numbers, each at most 512 calls, held against the oracle. */
public final class RandomRunsTest {
    /** What later calls answer is free. */
    private static final int CALLS = 512;
    /** The calls that end a run, and those that a slow turn makes behind its rows. */
    private static final int LAST_CALLS = 70;
    private static final int SLOW_CALLS = 80;
    private final Checks checks = new Checks();
    private long seed;
    private Gammonry table;
    private int[][] men;
    private int side;
    private int calls;
    private int turns;
    private String name;
    private long plays;
    private long hitting;
    private long errors;
    private int endings;
    private int games;

    private int next(int bound) {
        seed = seed * 6364136223846793005L + 1442695040888963407L;
        return (int) ((seed >>> 33) % bound);
    }

    private void same(String what, Object got, Object due) {
        calls++;
        checks.same(name + " call " + calls + ": " + what, got, due);
    }

    private void board() {
        for (int s = 0; s < 2; s++) {
            for (int p = 0; p <= 25 && calls < CALLS; p++) {
                same("men(" + s + ", " + p + ")", table.men(s, p), men[s][p]);
            }
            same("pips", table.pips(s), Oracle.pips(men, s));
        }
    }

    private void worths() {
        same("worth(0)", table.worth(0), Oracle.worth(men, 0));
        same("worth(1)", table.worth(1), Oracle.worth(men, 1));
    }

    private void chance() {
        if (Oracle.isEnding(men)) {
            endings++;
            same("chance", table.chance(), Oracle.chance(men, side));
        } else {
            calls++;
            checks.fails("chance", UnsupportedOperationException.class, () -> table.chance());
        }
    }

    private void rows(List<Oracle.Row> due) {
        for (int i = 0; i < due.size() && calls < CALLS - LAST_CALLS - SLOW_CALLS; i++) {
            int number = due.size() > 30 ? next(due.size()) : i;
            Oracle.Row row = due.get(number);
            same("moves", table.moves(number), row.moves.size());
            for (int m = 0; m < row.moves.size(); m++) {
                same("moveFrom", table.moveFrom(number, m), row.moves.get(m)[0]);
                same("moveTo", table.moveTo(number, m), row.moves.get(m)[1]);
            }
        }
    }

    private void judging(List<Oracle.Row> due, boolean isDeep) {
        int greatest = Oracle.greatest(due, side);
        int best = 0;
        while (Oracle.worth(due.get(best).behind, side) < greatest) {
            best++;
        }
        same("best", table.best(), best);
        int number = next(due.size());
        Oracle.Row row = due.get(number);
        same("error", table.error(number), greatest - Oracle.worth(row.behind, side));
        if (isDeep) {
            same("deep", table.deep(number), Oracle.deep(row, side));
        }
    }

    /** Single moves, by any row of the oracle's, taken back or finished. */
    private boolean singles(List<Oracle.Row> due) {
        Oracle.Row row = due.get(next(due.size()));
        int hits = 0;
        for (int[] move : row.moves) {
            calls++;
            hits += table.move(move[0], move[2]) ? 1 : 0;
        }
        same("hits of single moves", hits, row.hits);
        int[][] settled = men;
        men = row.behind;
        worths();
        same("isSound", table.isSound(), true);
        if (next(3) == 0) {
            board();
        }
        if (next(2) == 0) {
            same("undo", table.undo(), row.moves.size());
            men = settled;
            return false;
        }
        same("finish", table.finish(), due.indexOf(row));
        turns++;
        men = settled;
        count(due, row);
        return true;
    }

    private void count(List<Oracle.Row> due, Oracle.Row row) {
        plays++;
        hitting += row.hits > 0 ? 1 : 0;
        errors += Oracle.greatest(due, side) - Oracle.worth(row.behind, side);
        men = row.behind;
        side = 1 - side;
    }

    private void turn(boolean isSlow, boolean isDeep, boolean isWild) {
        if (isSlow) {
            worths();
        }
        chance();
        int one = 1 + next(6);
        int other = 1 + next(6);
        List<Oracle.Row> due = Oracle.plays(men, side, one, other);
        same("roll(" + one + ", " + other + ")", table.roll(one, other), due.size());
        if (isSlow) {
            rows(due);
            judging(due, isDeep);
            if (next(2) == 0 && singles(due)) {
                return;
            }
        }
        int number = isWild ? next(due.size()) : table.best();
        same("play", table.play(number), due.get(number).hits);
        turns++;
        same("played", table.played(), turns);
        same("playedAt", table.playedAt(turns - 1), number);
        count(due, due.get(number));
    }

    private void run(int number, char variant) {
        name = "run " + number + " of " + variant;
        seed = number * 1000L + variant;
        table = new Gammonry();
        table.start(variant, 0, false);
        calls = 1;
        plays = 0;
        hitting = 0;
        errors = 0;
        boolean isWild = number % 3 == 0;
        int pace = 2 + number % 40;
        while (calls < CALLS - LAST_CALLS) {
            side = next(2);
            table.begin(side);
            calls++;
            men = Oracle.layout(variant);
            turns = 0;
            while (calls < CALLS - LAST_CALLS && Oracle.pips(men, 0) > 0 && Oracle.pips(men, 1) > 0) {
                boolean isSlow = next(pace) == 0 && calls < CALLS - LAST_CALLS - SLOW_CALLS;
                turn(isSlow, next(4) == 0, isWild);
            }
            same("isSound", table.isSound(), true);
            if (Oracle.pips(men, 0) == 0 || Oracle.pips(men, 1) == 0) {
                games++;
                same("state", table.state(), '-');
                same("won", table.won(), kind());
            }
        }
        board();
        same("hitShare", table.hitShare(), (float) hitting / (float) plays);
        same("meanError", table.meanError(), (double) errors / (double) plays);
        checks.same(name + " has calls that are too many", calls > CALLS, false);
    }

    private int kind() {
        int[] loser = men[Oracle.pips(men, 0) == 0 ? 1 : 0];
        int back = 0;
        for (int p = 19; p <= 25; p++) {
            back += loser[p];
        }
        return loser[0] > 0 ? 1 : back > 0 ? 3 : 2;
    }

    private void equities() {
        for (int rate = 0; rate <= 100; rate += 20) {
            Gammonry judge = new Gammonry();
            judge.setRate(rate);
            HashMap<String, Long> known = new HashMap<>();
            for (int i = 0; i < 300; i++) {
                int a = next(26);
                int b = a == 0 ? 1 + next(25) : next(26);
                checks.same("equity(" + a + ", " + b + ") by " + rate, judge.equity(a, b),
                        Oracle.equity(a, b, rate, known));
            }
        }
    }

    public static void main(String[] args) {
        RandomRunsTest test = new RandomRunsTest();
        for (int number = 1; number <= 80; number++) {
            test.run(number, 'b');
            test.run(number, 'n');
        }
        for (int number = 1; number <= 240; number++) {
            test.run(number, 'h');
        }
        test.equities();
        System.out.println("games " + test.games + ", endings " + test.endings);
        test.checks.same("endings were met", test.endings > 100, true);
        test.checks.same("games ended", test.games > 100, true);
        test.checks.end("RandomRunsTest");
    }
}
