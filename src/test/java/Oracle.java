import java.util.ArrayList;
import java.util.HashMap;
import java.util.LinkedHashMap;
import java.util.List;
import java.util.Map;

/** What the document says of plays and judging, written the slowest and plainest way. */
final class Oracle {
    /** One row of moves, three numbers a move: from, to, die. */
    static final class Row {
        final List<int[]> moves = new ArrayList<>();
        int[][] behind;
        int hits;
    }

    private static final Map<String, Double> CHANCES = new HashMap<>();

    static int[][] layout(char variant) {
        int[][] men = new int[2][26];
        int[] points = variant == 'b' ? new int[] {24, 2, 13, 5, 8, 3, 6, 5}
                : variant == 'n' ? new int[] {24, 2, 23, 2, 13, 4, 8, 3, 6, 4} : new int[] {24, 1, 23, 1, 22, 1};
        for (int i = 0; i < points.length; i += 2) {
            men[0][points[i]] = points[i + 1];
            men[1][points[i]] = points[i + 1];
        }
        return men;
    }

    static int[][] copy(int[][] men) {
        return new int[][] {men[0].clone(), men[1].clone()};
    }

    static String text(int[][] men) {
        return java.util.Arrays.deepToString(men);
    }

    static boolean can(int[][] men, int side, int from, int die) {
        int[] own = men[side];
        if (from < 1 || from > 25 || own[from] == 0 || own[25] > 0 && from != 25) {
            return false;
        }
        if (from - die >= 1) {
            return men[1 - side][25 - (from - die)] < 2;
        }
        for (int p = 7; p <= 25; p++) {
            if (own[p] > 0) {
                return false;
            }
        }
        if (from == die) {
            return true;
        }
        for (int p = from + 1; p <= 25; p++) {
            if (own[p] > 0) {
                return false;
            }
        }
        return true;
    }

    static boolean step(int[][] men, int side, int from, int die) {
        int to = Math.max(0, from - die);
        men[side][from]--;
        men[side][to]++;
        if (to > 0 && men[1 - side][25 - to] > 0) {
            men[1 - side][25 - to]--;
            men[1 - side][25]++;
            return true;
        }
        return false;
    }

    /** All rows, also those that end early, in the order of the document. */
    private static void rows(int[][] men, int side, List<Integer> left, Row before, List<Row> into) {
        Row here = new Row();
        here.moves.addAll(before.moves);
        here.hits = before.hits;
        here.behind = men;
        into.add(here);
        for (int die = 6; die >= 1; die--) {
            if (!left.contains(die)) {
                continue;
            }
            List<Integer> rest = new ArrayList<>(left);
            rest.remove(Integer.valueOf(die));
            for (int from = 25; from >= 1; from--) {
                if (can(men, side, from, die)) {
                    int[][] next = copy(men);
                    Row row = new Row();
                    row.moves.addAll(before.moves);
                    row.moves.add(new int[] {from, Math.max(0, from - die), die});
                    row.hits = before.hits + (step(next, side, from, die) ? 1 : 0);
                    rows(next, side, rest, row, into);
                }
            }
        }
    }

    static List<Row> plays(int[][] men, int side, int one, int other) {
        List<Integer> dice = one == other ? List.of(one, one, one, one) : List.of(one, other);
        List<Row> all = new ArrayList<>();
        rows(men, side, dice, new Row(), all);
        int longest = 0;
        for (Row row : all) {
            longest = Math.max(longest, row.moves.size());
        }
        boolean greaterCan = false;
        for (Row row : all) {
            greaterCan |= row.moves.size() == 1 && row.moves.get(0)[2] == Math.max(one, other);
        }
        Map<String, Row> plays = new LinkedHashMap<>();
        for (Row row : all) {
            boolean fits = row.moves.size() == longest;
            if (longest == 1 && one != other && greaterCan) {
                fits = fits && row.moves.get(0)[2] == Math.max(one, other);
            }
            if (fits) {
                plays.putIfAbsent(text(row.behind), row);
            }
        }
        return new ArrayList<>(plays.values());
    }

    static int pips(int[][] men, int side) {
        int sum = 0;
        for (int p = 1; p <= 25; p++) {
            sum += p * men[side][p];
        }
        return sum;
    }

    static int worth(int[][] men, int side) {
        int worth = pips(men, 1 - side) - pips(men, side) + 8 * men[1 - side][25] + 10 * men[side][0];
        for (int p = 1; p <= 24; p++) {
            if (men[side][p] >= 2) {
                worth += 6;
            }
            if (men[side][p] == 1) {
                boolean behind = men[1 - side][25] > 0;
                for (int q = 1; q < p; q++) {
                    behind |= men[1 - side][25 - q] > 0;
                }
                worth -= behind ? 4 : 0;
            }
        }
        return worth;
    }

    static int greatest(List<Row> plays, int side) {
        int greatest = Integer.MIN_VALUE;
        for (Row row : plays) {
            greatest = Math.max(greatest, worth(row.behind, side));
        }
        return greatest;
    }

    static long deep(Row row, int side) {
        long sum = 0;
        for (int one = 1; one <= 6; one++) {
            for (int other = 1; other <= 6; other++) {
                sum += greatest(plays(row.behind, 1 - side, one, other), 1 - side);
            }
        }
        return -sum;
    }

    static boolean isEnding(int[][] men) {
        for (int side = 0; side < 2; side++) {
            int left = 0;
            for (int p = 1; p <= 25; p++) {
                left += men[side][p];
                if (p > 6 && men[side][p] > 0) {
                    return false;
                }
            }
            if (left < 1 || left > 2) {
                return false;
            }
        }
        return true;
    }

    static double chance(int[][] men, int side) {
        int[][] bare = copy(men);
        bare[0][0] = 0;
        bare[1][0] = 0;
        String key = text(bare) + side;
        Double known = CHANCES.get(key);
        if (known != null) {
            return known;
        }
        double sum = 0.0;
        for (int lesser = 1; lesser <= 6; lesser++) {
            for (int greater = lesser; greater <= 6; greater++) {
                double best = 0.0;
                for (Row row : plays(bare, side, greater, lesser)) {
                    best = Math.max(best, pips(row.behind, side) == 0 ? 1.0 : 1.0 - chance(row.behind, 1 - side));
                }
                sum += best * (greater == lesser ? 1.0 : 2.0);
            }
        }
        CHANCES.put(key, sum / 36.0);
        return sum / 36.0;
    }

    static long equity(int a, int b, int rate, Map<String, Long> known) {
        if (a <= 0) {
            return 1000000L;
        }
        if (b <= 0) {
            return 0L;
        }
        String key = a + " " + b;
        if (!known.containsKey(key)) {
            known.put(key, ((100 - rate) * equity(a - 1, b, rate, known) + rate * equity(a - 2, b, rate, known)
                    + (100 - rate) * equity(a, b - 1, rate, known) + rate * equity(a, b - 2, rate, known)) / 200L);
        }
        return known.get(key);
    }

    private Oracle() {
    }
}
