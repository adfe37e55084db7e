import java.util.Arrays;
import java.util.NoSuchElementException;

/** Games of dice and race: matches, rolls, plays, the cube, judging, a table of players and the history. */
public final class Gammonry {
    private static final char NO_GAME = '-';
    private static final char ON_ROLL = 'd';
    private static final char ROLLED = 'r';
    private static final char DOUBLED = 't';

    private static final int OFF = 0;
    private static final int HOME = 6;
    private static final int LAST_POINT = 24;
    private static final int BAR = 25;
    private static final int PLACES = 26;
    private static final int FACES = 6;
    private static final int NOBODY = -1;
    private static final int GREATEST_CUBE = 64;
    private static final int GREATEST_LENGTH = 25;

    /** The ways to lay 4 moves on 15 men: C(18, 4). No roll has more plays than that. */
    private static final int MOST_PLAYS = 3060;
    /** Two orders of dice, each with one of 15 men for either die. */
    private static final int MOST_PAIRS = 450;
    /** Each turn takes two calls of the 512, so this is more than a game can have. */
    private static final int MOST_TURNS = 512;

    /** A point and the number of men on it, in turns. */
    private static final int[] LAYOUT_B = {24, 2, 13, 5, 8, 3, 6, 5};
    private static final int[] LAYOUT_N = {24, 2, 23, 2, 13, 4, 8, 3, 6, 4};
    private static final int[] LAYOUT_H = {24, 1, 23, 1, 22, 1};
    private static final int[] NO_LAYOUT = {};

    private final Match match = new Match();
    private final Table table = new Table();
    private final History history = new History();
    private final Totals totals = new Totals();
    private final Roll dice = new Roll();
    private final Equities equities = new Equities();
    private final Ending ending = new Ending();
    private final Plays list = new Plays();
    private final Plays replies = new Plays();
    /** The men as they stand behind the last play. */
    private final Board settled = new Board();
    /** The same with the single moves. */
    private final Board board = new Board();
    private final Board scratch = new Board();

    private char phase = NO_GAME;
    private int mover = 0;
    private int stake = 1;
    private int holder = NOBODY;
    private int lastKind = 0;

    public Gammonry() {
    }

    // ---- matches and games

    public int start(char variant, int length, boolean isJacoby)
            throws IllegalArgumentException, IllegalStateException {
        int perSide = menIn(layoutOf(variant));
        if (perSide == 0 || length < 0 || length > GREATEST_LENGTH) {
            throw new IllegalArgumentException("no such variant or length");
        }
        if (phase != NO_GAME || (table.size() > 0 && length > 0)) {
            throw new IllegalStateException("a game is on, or the players play for money");
        }
        match.open(variant, length, isJacoby);
        return perSide;
    }

    public boolean begin(int first) throws IllegalArgumentException, IllegalStateException {
        requireSide(first);
        if (phase != NO_GAME || !match.isOpen() || match.isDecided()) {
            throw new IllegalStateException("no game can begin");
        }
        settled.layOut(layoutOf(match.variant()));
        board.become(settled);
        history.clear(match.variant(), first);
        stake = 1;
        holder = NOBODY;
        mover = first;
        phase = ON_ROLL;
        return match.isCrawford();
    }

    public char state() {
        return phase;
    }

    public int turn() throws IllegalStateException {
        if (phase == NO_GAME) {
            throw new IllegalStateException("no game is on");
        }
        return phase == DOUBLED ? 1 - mover : mover;
    }

    public int score(int side) throws IllegalArgumentException {
        requireSide(side);
        return match.pointsOf(side);
    }

    public int won() {
        return lastKind;
    }

    public boolean isOver() throws IllegalStateException {
        if (!match.isOpen()) {
            throw new IllegalStateException("no match was started");
        }
        return match.isDecided();
    }

    // ---- rolls and plays

    public int roll(int one, int other) throws IllegalArgumentException, IllegalStateException {
        if (one < 1 || one > FACES || other < 1 || other > FACES) {
            throw new IllegalArgumentException("no such die");
        }
        requirePhase(ON_ROLL);
        dice.become(one, other);
        totals.countRoll(one, other);
        list.collect(settled, mover, dice.greater(), dice.lesser());
        phase = ROLLED;
        return list.count();
    }

    public int plays() throws IllegalStateException {
        requirePhase(ROLLED);
        return list.count();
    }

    public int moves(int play) throws IllegalStateException, IndexOutOfBoundsException {
        requirePlay(play);
        return list.length();
    }

    public int moveFrom(int play, int move) throws IllegalStateException, IndexOutOfBoundsException {
        return fromOf(requireMove(play, move));
    }

    public int moveTo(int play, int move) throws IllegalStateException, IndexOutOfBoundsException {
        int code = requireMove(play, move);
        return Math.max(fromOf(code) - dieOf(code), OFF);
    }

    public int play(int play) throws IllegalStateException, IndexOutOfBoundsException {
        requirePlay(play);
        return carryOut(play);
    }

    public boolean move(int from, int die) throws IllegalStateException, UnsupportedOperationException {
        requirePhase(ROLLED);
        if (!dice.isLeft(die) || !board.canStep(mover, from, die)) {
            throw new UnsupportedOperationException("this move cannot be made");
        }
        dice.use(die);
        return board.step(mover, from, die);
    }

    public int undo() throws IllegalStateException {
        requirePhase(ROLLED);
        board.become(settled);
        return dice.takeBack();
    }

    public int finish() throws IllegalStateException, UnsupportedOperationException {
        requirePhase(ROLLED);
        int number = numberOfPlayToBoard();
        if (number < 0) {
            throw new UnsupportedOperationException("no play leads there");
        }
        carryOut(number);
        return number;
    }

    public int men(int side, int point) throws IllegalArgumentException, IndexOutOfBoundsException {
        requireSide(side);
        if (point < OFF || point > BAR) {
            throw new IndexOutOfBoundsException("no such point");
        }
        return board.at(side, point);
    }

    public int pips(int side) throws IllegalArgumentException {
        requireSide(side);
        return board.pipsOf(side);
    }

    // ---- cube

    public int cube() {
        return stake;
    }

    public int owner() {
        return holder;
    }

    public int offer() throws IllegalStateException, UnsupportedOperationException {
        requirePhase(ON_ROLL);
        if (stake >= GREATEST_CUBE || holder == 1 - mover || match.isCrawford()) {
            throw new UnsupportedOperationException("this side cannot double");
        }
        phase = DOUBLED;
        return 2 * stake;
    }

    public int take() throws IllegalStateException {
        requirePhase(DOUBLED);
        return turnCube(2);
    }

    public int drop() throws IllegalStateException {
        requirePhase(DOUBLED);
        endGame(mover, 1);
        return stake;
    }

    public int beaver() throws IllegalStateException, UnsupportedOperationException {
        requirePhase(DOUBLED);
        if (!match.isForMoney() || 4 * stake > GREATEST_CUBE) {
            throw new UnsupportedOperationException("this double cannot be beavered");
        }
        return turnCube(4);
    }

    // ---- judging

    public int worth(int side) throws IllegalArgumentException, IllegalStateException {
        requireSide(side);
        if (phase == NO_GAME) {
            throw new IllegalStateException("no game is on");
        }
        return board.worthFor(side);
    }

    public int best() throws IllegalStateException {
        requirePhase(ROLLED);
        return list.numberOfGreatest();
    }

    public int error(int play) throws IllegalStateException, IndexOutOfBoundsException {
        requirePlay(play);
        return list.errorOf(play);
    }

    public long deep(int play) throws IllegalStateException, IndexOutOfBoundsException {
        requirePlay(play);
        scratch.become(settled);
        scratch.carry(mover, list.rowAt(play));
        long sum = 0L;
        for (int lesser = 1; lesser <= FACES; lesser++) {
            for (int greater = lesser; greater <= FACES; greater++) {
                replies.collect(scratch, 1 - mover, greater, lesser);
                long greatest = replies.greatestWorth();
                sum += greater == lesser ? greatest : 2L * greatest;
            }
        }
        return 0L - sum;
    }

    public double chance() throws IllegalStateException, UnsupportedOperationException {
        requirePhase(ON_ROLL);
        if (!settled.isEnding(0) || !settled.isEnding(1)) {
            throw new UnsupportedOperationException("this is no such ending");
        }
        return ending.chanceOf(settled.lastTwo(mover), settled.lastTwo(1 - mover));
    }

    public int setRate(int rate) throws IllegalArgumentException {
        if (rate < 0 || rate > 100) {
            throw new IllegalArgumentException("no such rate");
        }
        return equities.replaceRate(rate);
    }

    public long equity(int needed, int other) throws IllegalArgumentException {
        if (needed < 0 || needed > GREATEST_LENGTH || other < 0 || other > GREATEST_LENGTH
                || (needed == 0 && other == 0)) {
            throw new IllegalArgumentException("no such score");
        }
        return equities.of(needed, other);
    }

    // ---- table and record

    public int seat(int players) throws IllegalArgumentException, IllegalStateException {
        if (players < Table.LEAST || players > Table.MOST) {
            throw new IllegalArgumentException("no such number of players");
        }
        if (phase != NO_GAME || (match.isOpen() && !match.isForMoney())) {
            throw new IllegalStateException("a game is on, or the match is not for money");
        }
        int before = table.size();
        table.invite(players);
        return before;
    }

    public long account(int player) throws IndexOutOfBoundsException {
        if (player < 0 || player >= table.size()) {
            throw new IndexOutOfBoundsException("no such player");
        }
        return table.balanceOf(player);
    }

    public int box() throws NoSuchElementException {
        return requireSeat(Table.BOX);
    }

    public int captain() throws NoSuchElementException {
        return requireSeat(Table.CAPTAIN);
    }

    public int inLine(int place) throws NoSuchElementException {
        // The greatest int would wrap round, and no place below 0 may reach the captain.
        boolean isPlace = place >= 0 && place < Table.MOST;
        return requireSeat(isPlace ? Table.LINE + place : Table.MOST);
    }

    public int played() {
        return history.turns();
    }

    public int playedAt(int turn) throws IndexOutOfBoundsException {
        requireTurn(turn);
        return history.numberAt(turn);
    }

    public int rolledAt(int turn) throws IndexOutOfBoundsException {
        requireTurn(turn);
        return history.diceAt(turn);
    }

    public long fairness() {
        return totals.unevenness();
    }

    public float hitShare() throws NoSuchElementException {
        if (totals.allPlays() == 0) {
            throw new NoSuchElementException("no play was made");
        }
        return (float) totals.hitting() / (float) totals.allPlays();
    }

    public double meanError() throws NoSuchElementException {
        if (totals.allPlays() == 0) {
            throw new NoSuchElementException("no play was made");
        }
        return (double) totals.errors() / (double) totals.allPlays();
    }

    public boolean isSound() {
        int perSide = menIn(layoutOf(history.variant()));
        if (board.total(0) != perSide || board.total(1) != perSide || table.sum() != 0L) {
            return false;
        }
        history.replay(scratch);
        return scratch.isLike(settled);
    }

    // ---- what the calls share

    private static void requireSide(int side) {
        if (side != 0 && side != 1) {
            throw new IllegalArgumentException("no such side");
        }
    }

    private void requirePhase(char due) {
        if (phase != due) {
            throw new IllegalStateException("not now");
        }
    }

    private void requirePlay(int number) {
        requirePhase(ROLLED);
        if (number < 0 || number >= list.count()) {
            throw new IndexOutOfBoundsException("no such play");
        }
    }

    private int requireMove(int number, int place) {
        requirePlay(number);
        if (place < 0 || place >= list.length()) {
            throw new IndexOutOfBoundsException("no such move");
        }
        return codeAt(list.rowAt(number), place);
    }

    private int requireSeat(int seat) {
        if (seat < 0 || seat >= table.size()) {
            throw new NoSuchElementException("nobody is there");
        }
        return table.playerAt(seat);
    }

    private void requireTurn(int number) {
        if (number < 0 || number >= history.turns()) {
            throw new IndexOutOfBoundsException("no such turn");
        }
    }

    private int turnCube(int times) {
        stake = times * stake;
        holder = 1 - mover;
        phase = ON_ROLL;
        return stake;
    }

    private int carryOut(int number) {
        int row = list.rowAt(number);
        int hits = settled.carry(mover, row);
        board.become(settled);
        history.add(dice.asNumber(), number, row);
        totals.countPlay(hits, list.errorOf(number));
        if (settled.at(mover, OFF) == settled.total(mover)) {
            endGame(mover, kindAgainst(1 - mover));
        } else {
            mover = 1 - mover;
            phase = ON_ROLL;
        }
        return hits;
    }

    private int kindAgainst(int loser) {
        if (settled.at(loser, OFF) > 0 || (match.isJacoby() && stake == 1)) {
            return 1;
        }
        return settled.farthest(loser) > LAST_POINT - HOME ? 3 : 2;
    }

    private void endGame(int winner, int kind) {
        phase = NO_GAME;
        lastKind = kind;
        match.addPoints(winner, stake * kind);
        table.settle(winner == 0, stake * kind);
    }

    private int numberOfPlayToBoard() {
        for (int number = 0; number < list.count(); number++) {
            scratch.become(settled);
            scratch.carry(mover, list.rowAt(number));
            if (scratch.isLike(board)) {
                return number;
            }
        }
        return -1;
    }

    private static int[] layoutOf(char variant) {
        if (variant == 'b') {
            return LAYOUT_B;
        }
        if (variant == 'n') {
            return LAYOUT_N;
        }
        return variant == 'h' ? LAYOUT_H : NO_LAYOUT;
    }

    private static int menIn(int[] layout) {
        int sum = 0;
        for (int i = 1; i < layout.length; i += 2) {
            sum += layout[i];
        }
        return sum;
    }

    // A move is kept as one number of 8 bits, and a row of up to four of them in one int;
    // no move has the number 0, so that a row ends ahead of it.

    private static int codeOf(int from, int die) {
        return from << 3 | die;
    }

    private static int fromOf(int code) {
        return code >>> 3;
    }

    private static int dieOf(int code) {
        return code & 7;
    }

    private static int codeAt(int row, int place) {
        return row >>> 8 * place & 255;
    }

    private static int withCode(int row, int place, int code) {
        return row | code << 8 * place;
    }

    /** The men of both sides, each side's in its own numbering. */
    private static final class Board {
        private final int[] counts = new int[2 * PLACES];

        int at(int side, int point) {
            if (side < 0 || side > 1 || point < OFF || point > BAR) {
                return 0;
            }
            return counts[side * PLACES + point];
        }

        private void add(int side, int point, int change) {
            if (side >= 0 && side <= 1 && point >= OFF && point <= BAR) {
                counts[side * PLACES + point] += change;
            }
        }

        void become(Board model) {
            for (int i = 0; i < counts.length; i++) {
                counts[i] = model.counts[i];
            }
        }

        boolean isLike(Board twin) {
            for (int i = 0; i < counts.length; i++) {
                if (counts[i] != twin.counts[i]) {
                    return false;
                }
            }
            return true;
        }

        void layOut(int[] layout) {
            Arrays.fill(counts, 0);
            for (int i = 0; i + 1 < layout.length; i += 2) {
                add(0, layout[i], layout[i + 1]);
                add(1, layout[i], layout[i + 1]);
            }
        }

        int total(int side) {
            int sum = 0;
            for (int point = OFF; point <= BAR; point++) {
                sum += at(side, point);
            }
            return sum;
        }

        int pipsOf(int side) {
            int sum = 0;
            for (int point = 1; point <= BAR; point++) {
                sum += point * at(side, point);
            }
            return sum;
        }

        /** The greatest point with a man, or 0. */
        int farthest(int side) {
            for (int point = BAR; point >= 1; point--) {
                if (at(side, point) > 0) {
                    return point;
                }
            }
            return OFF;
        }

        boolean canStep(int side, int from, int die) {
            if (die < 1 || die > FACES || from < 1 || at(side, from) == 0) {
                return false;
            }
            if (from != BAR && at(side, BAR) > 0) {
                return false;
            }
            if (from > die) {
                return at(1 - side, BAR - (from - die)) < 2;
            }
            int farthest = farthest(side);
            return farthest <= HOME && (from == die || from == farthest);
        }

        /** Makes a move that can be made; tells whether a man is hit. */
        boolean step(int side, int from, int die) {
            int to = Math.max(from - die, OFF);
            add(side, from, -1);
            add(side, to, 1);
            if (to == OFF || at(1 - side, BAR - to) == 0) {
                return false;
            }
            add(1 - side, BAR - to, -1);
            add(1 - side, BAR, 1);
            return true;
        }

        void stepBack(int side, int from, int die, boolean wasHit) {
            int to = Math.max(from - die, OFF);
            add(side, from, 1);
            add(side, to, -1);
            if (wasHit) {
                add(1 - side, BAR - to, 1);
                add(1 - side, BAR, -1);
            }
        }

        /** Makes the moves of a row; returns how many men are hit. */
        int carry(int side, int row) {
            int hits = 0;
            for (int place = 0; place < 4; place++) {
                int code = codeAt(row, place);
                if (code != 0 && step(side, fromOf(code), dieOf(code))) {
                    hits++;
                }
            }
            return hits;
        }

        int worthFor(int side) {
            if (side < 0 || side > 1) {
                return 0;
            }
            // Straight from the array, for this is by far the most frequent work.
            int ownPlace = side * PLACES;
            int otherPlace = PLACES - ownPlace;
            int captives = counts[otherPlace + BAR];
            int sum = 10 * counts[ownPlace] - BAR * counts[ownPlace + BAR] + (BAR + 8) * captives;
            boolean isExposed = captives > 0;
            for (int point = 1; point <= LAST_POINT; point++) {
                int own = counts[ownPlace + point];
                int across = counts[otherPlace + BAR - point];
                sum += (BAR - point) * across - point * own;
                if (own >= 2) {
                    sum += 6;
                } else if (own == 1 && isExposed) {
                    sum -= 4;
                }
                isExposed = isExposed || across > 0;
            }
            return sum;
        }

        /** Whether the side has one or two men left, all at home. */
        boolean isEnding(int side) {
            int left = total(side) - at(side, OFF);
            return left >= 1 && left <= 2 && farthest(side) <= HOME;
        }

        /** The men of an ending, as Ending numbers them. */
        int lastTwo(int side) {
            int far = farthest(side);
            int near = at(side, far) > 1 ? far : OFF;
            for (int point = 1; point < far; point++) {
                near = at(side, point) > 0 ? point : near;
            }
            return Ending.pair(far, near);
        }
    }

    /** The plays of a roll, and what the positions behind them are worth for the side. */
    private static final class Plays {
        private final Board track = new Board();
        private final int[] rows = new int[MOST_PLAYS];
        private final int[] worths = new int[MOST_PLAYS];
        private final long[] changes = new long[MOST_PAIRS];
        private final int[] hits = new int[MOST_PAIRS];
        private final long[] powers = new long[PLACES];
        private int side = 0;
        private int count = 0;
        private int length = 0;
        private int greatest = 0;

        Plays() {
            long power = 1L;
            for (int point = 0; point < PLACES; point++) {
                powers[point] = power;
                power = 5L * power;
            }
        }

        int count() {
            return count;
        }

        int length() {
            return length;
        }

        int rowAt(int number) {
            return number >= 0 && number < MOST_PLAYS ? rows[number] : 0;
        }

        private int worthAt(int number) {
            return number >= 0 && number < MOST_PLAYS ? worths[number] : 0;
        }

        int numberOfGreatest() {
            return greatest;
        }

        int greatestWorth() {
            return worthAt(greatest);
        }

        int errorOf(int number) {
            return greatestWorth() - worthAt(number);
        }

        void collect(Board from, int mover, int greater, int lesser) {
            track.become(from);
            side = mover;
            clear(0);
            if (greater == lesser) {
                collectAlike(this, greater, 0, BAR, 0);
            } else {
                collectUnlike(greater, lesser);
            }
        }

        private void clear(int newLength) {
            length = newLength;
            count = 0;
            greatest = 0;
        }

        private void addRow(int row) {
            if (count < 0 || count >= MOST_PLAYS) {
                return;
            }
            rows[count] = row;
            worths[count] = track.worthFor(side);
            if (worths[count] > greatestWorth()) {
                greatest = count;
            }
            count++;
        }

        /**
         * By dice alike, moves that can be made in some order can be made from greater points to lesser ones
         * too, and this is the first of their orders; other points from which one moves make another position.
         * So the rows that never go up are the plays, each once.
         */
        private static void collectAlike(Plays plays, int die, int depth, int highest, int row) {
            for (int from = highest; from >= 1 && depth < 4; from--) {
                if (plays.track.canStep(plays.side, from, die)) {
                    boolean isHit = plays.track.step(plays.side, from, die);
                    collectAlike(plays, die, depth + 1, from, withCode(row, depth, codeOf(from, die)));
                    plays.track.stepBack(plays.side, from, die, isHit);
                }
            }
            if (depth > plays.length) {
                plays.clear(depth);
            }
            // A row that could go on is shorter by now than those that do.
            if (depth == plays.length) {
                plays.addRow(row);
            }
        }

        private void collectUnlike(int greater, int lesser) {
            length = 2;
            addPairs(greater, lesser);
            addPairs(lesser, greater);
            if (count == 0) {
                length = 1;
                addSingles(greater);
            }
            if (count == 0) {
                addSingles(lesser);
            }
            if (count == 0) {
                length = 0;
                addRow(0);
            }
        }

        private void addPairs(int first, int second) {
            for (int from = BAR; from >= 1; from--) {
                if (track.canStep(side, from, first)) {
                    boolean isHit = track.step(side, from, first);
                    addSeconds(from, first, isHit, second);
                    track.stepBack(side, from, first, isHit);
                }
            }
        }

        private void addSeconds(int firstFrom, int first, boolean isFirstHit, int second) {
            for (int from = BAR; from >= 1; from--) {
                if (track.canStep(side, from, second)) {
                    boolean isHit = track.step(side, from, second);
                    long change = changeBy(firstFrom, first) + changeBy(from, second);
                    int points = hitPoint(firstFrom, first, isFirstHit) | hitPoint(from, second, isHit);
                    if (isNew(change, points)) {
                        addRow(withCode(codeOf(firstFrom, first), 1, codeOf(from, second)));
                    }
                    track.stepBack(side, from, second, isHit);
                }
            }
        }

        private void addSingles(int die) {
            for (int from = BAR; from >= 1; from--) {
                if (track.canStep(side, from, die)) {
                    boolean isHit = track.step(side, from, die);
                    addRow(codeOf(from, die));
                    track.stepBack(side, from, die, isHit);
                }
            }
        }

        /**
         * How a move changes the men, the points being digits to the base 5: by two moves a point changes by
         * 2 at most, so that sums of two are equal only if the changes are.
         */
        private long changeBy(int from, int die) {
            int to = Math.max(from - die, OFF);
            if (from < 0 || from >= PLACES || to >= PLACES) {
                return 0L;
            }
            return powers[to] - powers[from];
        }

        private static int hitPoint(int from, int die, boolean isHit) {
            return isHit ? 1 << from - die : 0;
        }

        /** Whether no row has led to this position, which is remembered then. */
        private boolean isNew(long change, int points) {
            if (count < 0 || count >= MOST_PAIRS) {
                return false;
            }
            for (int i = 0; i < count; i++) {
                if (changes[i] == change && hits[i] == points) {
                    return false;
                }
            }
            changes[count] = change;
            hits[count] = points;
            return true;
        }
    }

    /** Chances where each side has at most two men left, all at home. */
    private static final class Ending {
        private static final int PAIRS = 49;
        /** A roll takes 3 of the 12 pips of a side at least, so that nothing goes deeper than 8 rolls. */
        private static final int DEEPEST = 12;
        private final double[] chances = new double[PAIRS * PAIRS];

        Ending() {
            Arrays.fill(chances, -1.0);
        }

        /** Two men, 0 being off, as one number: the farther one times 7, and the nearer one. */
        static int pair(int one, int other) {
            return 7 * Math.max(one, other) + Math.min(one, other);
        }

        double chanceOf(int own, int other) {
            return chanceFrom(own, other, 0);
        }

        private double chanceFrom(int own, int other, int depth) {
            if (own < 0 || own >= PAIRS || other < 0 || other >= PAIRS || depth > DEEPEST) {
                return 0.0;
            }
            int index = own * PAIRS + other;
            if (chances[index] < 0.0) {
                chances[index] = sumOverRolls(own, other, depth) / 36.0;
            }
            return chances[index];
        }

        private double sumOverRolls(int own, int other, int depth) {
            double sum = 0.0;
            for (int lesser = 1; lesser <= FACES; lesser++) {
                for (int greater = lesser; greater <= FACES; greater++) {
                    sum = sum + ofRoll(own, other, greater, lesser, depth) * (greater == lesser ? 1.0 : 2.0);
                }
            }
            return sum;
        }

        private double ofRoll(int own, int other, int greater, int lesser, int depth) {
            if (greater == lesser) {
                return greatest(own, other, greater, greater, 4, depth);
            }
            double one = greatest(own, other, greater, lesser, 2, depth);
            double two = greatest(own, other, lesser, greater, 2, depth);
            return one >= two ? one : two;
        }

        /**
         * The greatest chance behind the moves that are left, the next of them by this die. As long as a man is
         * left, the farther one can move, so that every row goes on to the last die or until both are off.
         */
        private double greatest(int own, int other, int die, int nextDie, int left, int depth) {
            if (own == 0) {
                return 1.0;
            }
            if (left <= 0) {
                return 1.0 - chanceFrom(other, own, depth + 1);
            }
            int far = own / 7;
            int near = own % 7;
            double one = greatest(pair(Math.max(far - die, OFF), near), other, nextDie, die, left - 1, depth);
            if (near < die || near == far) {
                return one;
            }
            double two = greatest(pair(far, near - die), other, nextDie, die, left - 1, depth);
            return one >= two ? one : two;
        }
    }

    /** Equities by the rate of double games, in millionths. */
    private static final class Equities {
        private static final int SIZE = GREATEST_LENGTH + 1;
        private static final long ALL = 1000000L;
        private final long[] known = new long[SIZE * SIZE];
        private int rate = 25;

        int replaceRate(int newRate) {
            int before = rate;
            rate = newRate;
            return before;
        }

        long of(int needed, int across) {
            for (int one = 1; one <= needed && one < SIZE; one++) {
                for (int two = 1; two <= across && two < SIZE; two++) {
                    long single = at(one - 1, two) + at(one, two - 1);
                    long twofold = at(one - 2, two) + at(one, two - 2);
                    known[one * SIZE + two] = ((100 - rate) * single + rate * twofold) / 200L;
                }
            }
            return at(needed, across);
        }

        private long at(int one, int two) {
            if (one <= 0) {
                return ALL;
            }
            if (two <= 0 || one >= SIZE || two >= SIZE) {
                return 0L;
            }
            return known[one * SIZE + two];
        }
    }

    /** A match to a length, or for money. */
    private static final class Match {
        /** The three times of Crawford's rule: no side has needed just one point, the game by it, after it. */
        private static final int AHEAD = 0;
        private static final int NOW = 1;
        private static final int BEHIND = 2;

        private boolean isOpen = false;
        private char variant = ' ';
        private int length = 0;
        private boolean hasJacoby = false;
        private int crawford = AHEAD;
        private int pointsOf0 = 0;
        private int pointsOf1 = 0;

        void open(char newVariant, int newLength, boolean isJacoby) {
            isOpen = true;
            variant = newVariant;
            length = newLength;
            hasJacoby = isJacoby;
            crawford = AHEAD;
            pointsOf0 = 0;
            pointsOf1 = 0;
        }

        boolean isOpen() {
            return isOpen;
        }

        char variant() {
            return variant;
        }

        boolean isForMoney() {
            return isOpen && length == 0;
        }

        boolean isJacoby() {
            return isForMoney() && hasJacoby;
        }

        boolean isCrawford() {
            return crawford == NOW;
        }

        boolean isDecided() {
            return length > 0 && Math.max(pointsOf0, pointsOf1) >= length;
        }

        int pointsOf(int side) {
            return side == 0 ? pointsOf0 : pointsOf1;
        }

        void addPoints(int winner, int points) {
            if (winner == 0) {
                pointsOf0 += points;
            } else {
                pointsOf1 += points;
            }
            if (crawford == NOW) {
                crawford = BEHIND;
            } else if (crawford == AHEAD && length > 0 && pointsOf(winner) == length - 1) {
                crawford = NOW;
            }
        }
    }

    /** The players: the box first, then the captain, then the line. */
    private static final class Table {
        static final int LEAST = 3;
        static final int MOST = 6;
        static final int BOX = 0;
        static final int CAPTAIN = 1;
        static final int LINE = 2;
        private final int[] seats = new int[MOST];
        private final long[] balances = new long[MOST];
        private int size = 0;

        int size() {
            return size;
        }

        void invite(int players) {
            size = Math.min(Math.max(players, 0), MOST);
            for (int i = 0; i < MOST; i++) {
                seats[i] = i;
                balances[i] = 0L;
            }
        }

        int playerAt(int seat) {
            return seat >= 0 && seat < MOST ? seats[seat] : 0;
        }

        long balanceOf(int player) {
            return player >= 0 && player < MOST ? balances[player] : 0L;
        }

        long sum() {
            long sum = 0L;
            for (int i = 0; i < MOST; i++) {
                sum += balances[i];
            }
            return sum;
        }

        void settle(boolean hasBoxWon, int points) {
            if (size < LEAST) {
                return;
            }
            long fromEach = hasBoxWon ? points : -points;
            for (int seat = CAPTAIN; seat < size; seat++) {
                pay(playerAt(seat), playerAt(BOX), fromEach);
            }
            moveUp(hasBoxWon ? CAPTAIN : BOX);
        }

        private void pay(int payer, int payee, long points) {
            if (payer >= 0 && payer < MOST && payee >= 0 && payee < MOST) {
                balances[payer] -= points;
                balances[payee] += points;
            }
        }

        /** Who has this seat goes to the end of the line, and all behind move up by one. */
        private void moveUp(int leaving) {
            int leaver = playerAt(leaving);
            for (int seat = leaving; seat >= 0 && seat + 1 < size && seat + 1 < MOST; seat++) {
                seats[seat] = seats[seat + 1];
            }
            if (size >= 1 && size <= MOST) {
                seats[size - 1] = leaver;
            }
        }
    }

    /** The rolls and plays of a game. */
    private static final class History {
        private final int[] dice = new int[MOST_TURNS];
        private final int[] numbers = new int[MOST_TURNS];
        private final int[] rows = new int[MOST_TURNS];
        private int turns = 0;
        private char variant = ' ';
        private int first = 0;

        void clear(char newVariant, int newFirst) {
            turns = 0;
            variant = newVariant;
            first = newFirst;
        }

        void add(int rolled, int number, int row) {
            if (turns >= 0 && turns < MOST_TURNS) {
                dice[turns] = rolled;
                numbers[turns] = number;
                rows[turns] = row;
                turns++;
            }
        }

        int turns() {
            return turns;
        }

        char variant() {
            return variant;
        }

        int diceAt(int number) {
            return number >= 0 && number < MOST_TURNS ? dice[number] : 0;
        }

        int numberAt(int number) {
            return number >= 0 && number < MOST_TURNS ? numbers[number] : 0;
        }

        void replay(Board track) {
            track.layOut(layoutOf(variant));
            int side = first;
            for (int i = 0; i < turns && i < MOST_TURNS; i++) {
                track.carry(side, rows[i]);
                side = 1 - side;
            }
        }
    }

    /** Sums over all games. */
    private static final class Totals {
        private final int[] faces = new int[FACES + 1];
        private int allPlays = 0;
        private int hitting = 0;
        private long errors = 0L;

        void countRoll(int one, int other) {
            countFace(one);
            countFace(other);
        }

        private void countFace(int face) {
            if (face >= 1 && face <= FACES) {
                faces[face]++;
            }
        }

        void countPlay(int hits, int error) {
            allPlays++;
            hitting += hits > 0 ? 1 : 0;
            errors += error;
        }

        int allPlays() {
            return allPlays;
        }

        int hitting() {
            return hitting;
        }

        long errors() {
            return errors;
        }

        long unevenness() {
            long all = 0L;
            for (int face = 1; face <= FACES; face++) {
                all += faces[face];
            }
            long sum = 0L;
            for (int face = 1; face <= FACES; face++) {
                long excess = 6L * faces[face] - all;
                sum += excess * excess;
            }
            return sum;
        }
    }

    /** A roll, and which of its dice are left behind single moves. */
    private static final class Roll {
        private int greater = 0;
        private int lesser = 0;
        private int greaterLeft = 0;
        private int lesserLeft = 0;
        private int used = 0;

        void become(int one, int other) {
            greater = Math.max(one, other);
            lesser = Math.min(one, other);
            takeBack();
        }

        int greater() {
            return greater;
        }

        int lesser() {
            return lesser;
        }

        int asNumber() {
            return 10 * greater + lesser;
        }

        boolean isLeft(int die) {
            return (die == greater && greaterLeft > 0) || (die == lesser && lesserLeft > 0);
        }

        void use(int die) {
            if (die == greater) {
                greaterLeft--;
            } else {
                lesserLeft--;
            }
            used++;
        }

        /** Frees all dice; returns how many were used. */
        int takeBack() {
            int before = used;
            greaterLeft = greater == lesser ? 4 : 1;
            lesserLeft = greater == lesser ? 0 : 1;
            used = 0;
            return before;
        }
    }
}
