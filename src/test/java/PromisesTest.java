/** Runs for each promise: ordinary inputs, the edges that the document names, and wrong inputs. */
public final class PromisesTest {
    private static final Checks CHECKS = new Checks();

    private static void run(String name, String text) {
        Script.run(CHECKS, name, text);
    }

    private static void matches() {
        run("1 a new object", """
                state = -
                score 0 = 0
                score 1 = 0
                won = 0
                cube = 1
                owner = -1
                men 0 24 = 0
                men 1 0 = 0
                men 1 25 = 0
                pips 0 = 0
                played = 0
                fairness = 0
                isSound = true
                isOver ! IllegalStateException
                begin 0 ! IllegalStateException
                box ! NoSuchElementException
                account 0 ! IndexOutOfBoundsException
                hitShare ! NoSuchElementException
                meanError ! NoSuchElementException
                """);
        run("2 start", """
                start b 0 false = 15
                start n 25 true = 15
                start h 1 true = 3
                start B 3 true ! IllegalArgumentException
                start - 3 true ! IllegalArgumentException
                start b 26 true ! IllegalArgumentException
                start b -1 true ! IllegalArgumentException
                men 0 24 = 0            // no men ahead of the first game
                begin 0 = false         // the failed calls left the match to 1 by 'h'
                men 0 22 = 1
                start b 0 true ! IllegalStateException
                start q 0 true ! IllegalArgumentException
                offer
                start b 0 true ! IllegalStateException
                drop
                isOver = true
                start b 3 false = 15
                score 0 = 0
                isOver = false
                men 0 22 = 1            // as the last game ended
                isSound = true
                won = 1
                """);
        run("2 start with players", """
                seat 3 = 0
                start b 1 true ! IllegalStateException
                start b 26 true ! IllegalArgumentException
                isOver ! IllegalStateException
                start b 0 true = 15
                begin 1
                offer
                drop
                start h 0 false = 3
                account 1 = 1
                account 0 = -2
                box = 1
                """);
        run("2 start keeps records and rolls", """
                start b 3 false
                begin 0
                turns 31#2
                offer
                take
                offer ! UnsupportedOperationException
                turns 61#0
                offer
                drop
                start h 0 false
                played = 2
                playedAt 0 = 2
                rolledAt 0 = 31
                fairness = 120          // 8 * 8 for the face 1, 2 * 2 for 3 and 6 each, 4 * 4 for the others
                cube = 2
                owner = 0
                won = 1
                hitShare = 0.5
                begin 1
                played = 0
                cube = 1
                owner = -1
                men 0 13 = 0
                won = 1
                """);
        run("3 begin", """
                begin 0 ! IllegalStateException
                begin 2 ! IllegalArgumentException
                begin -1 ! IllegalArgumentException
                start h 3 false
                begin 2 ! IllegalArgumentException
                begin 1 = false
                turn = 1
                begin 1 ! IllegalStateException
                begin 2 ! IllegalArgumentException
                offer
                begin 1 ! IllegalStateException
                drop
                begin 1 = false         // 1 of 3
                offer
                drop
                begin 0 = true          // 2 of 3: the game by Crawford's rule
                offer ! UnsupportedOperationException
                rush 1
                begin 0 = false         // behind it
                offer
                drop
                score 0 = 2             // this one needs just one point too, but there is no second such game
                score 1 = 2
                begin 0 = false
                offer
                drop
                begin 0 ! IllegalStateException
                isOver = true
                start h 3 false
                begin 0 = false
                """);
        run("3 a match to one has no game by Crawford's rule", """
                start h 1 false
                begin 0 = false
                offer = 2
                take
                rush 1
                score 0 = 2
                isOver = true
                """);
        run("3 Crawford's rule for both sides, by a double game", """
                start h 3 false
                begin 1
                rush 2
                begin 0 = true
                turns 66#0
                offer ! UnsupportedOperationException
                """);
        run("3 no game by Crawford's rule for money", """
                start h 0 false
                begin 0 = false
                offer
                drop
                begin 0 = false
                offer = 2
                """);
        run("3 Crawford's rule begins anew with a match", """
                start h 2 false
                begin 0
                offer
                drop
                start h 2 false
                begin 0 = false
                offer = 2
                drop
                begin 1 = true
                rush 1
                begin 1 = false
                offer = 2
                """);
        run("4 state, 5 turn", """
                state = -
                turn ! IllegalStateException
                start b 0 false
                state = -
                turn ! IllegalStateException
                begin 1
                state = d
                turn = 1
                offer
                state = t
                turn = 0
                beaver
                state = d
                turn = 1
                roll 6 1
                state = r
                turn = 1
                move 13 6
                state = r
                turn = 1
                play 0
                state = d
                turn = 0
                offer
                state = t
                turn = 1
                take
                state = d
                turn = 0
                turns 61#0
                offer
                drop
                state = -
                turn ! IllegalStateException
                """);
        run("6 score", """
                score 1 = 0
                score 2 ! IllegalArgumentException
                score -1 ! IllegalArgumentException
                start h 0 false
                begin 0
                rush 3
                score 0 = 3
                score 1 = 0
                begin 1
                rush 2
                score 0 = 3
                score 1 = 2
                start h 7 true
                score 0 = 0
                begin 0
                offer
                take
                rush 3
                score 0 = 6
                """);
        for (int kind = 1; kind <= 3; kind++) {
            run("7 won " + kind, """
                    start h 0 false
                    begin 0
                    won = 0
                    rush KIND
                    won = KIND
                    score 0 = KIND
                    men 0 0 = 3
                    begin 1
                    won = KIND
                    offer
                    drop
                    won = 1
                    """.replace("KIND", "" + kind));
        }
        run("7 won by Jacoby's rule", """
                start h 0 true
                begin 1
                rush 3
                won = 1
                score 1 = 1
                begin 1
                offer
                take
                rush 3
                won = 3
                score 1 = 7
                start h 9 true          // not for money
                begin 1
                rush 2
                won = 2
                score 1 = 2
                """);
        run("8 isOver", """
                isOver ! IllegalStateException
                start h 2 false
                isOver = false
                begin 0
                isOver = false
                rush 1
                isOver = false
                begin 1
                rush 2
                isOver = true
                start h 0 false
                isOver = false
                begin 1
                rush 3
                isOver = false
                """);
    }

    private static void rolls() {
        run("9 roll", """
                roll 1 1 ! IllegalStateException
                roll 7 1 ! IllegalArgumentException
                start b 3 false
                begin 0
                roll 0 1 ! IllegalArgumentException
                roll 1 0 ! IllegalArgumentException
                roll 1 7 ! IllegalArgumentException
                roll 7 1 ! IllegalArgumentException
                fairness = 0
                state = d
                roll 5 6 = 7
                moveFrom 0 0 = 24       // by the greater die first, though it was told behind
                moveTo 0 0 = 18
                moveTo 0 1 = 13
                roll 6 5 ! IllegalStateException
                roll 6 0 ! IllegalArgumentException
                play 0
                offer
                roll 6 5 ! IllegalStateException
                """);
        run("10 plays, 11 moves, 12 moveFrom, 13 moveTo", """
                plays ! IllegalStateException
                moves 0 ! IllegalStateException
                moves -1 ! IllegalStateException
                moveFrom 0 0 ! IllegalStateException
                moveTo 0 -1 ! IllegalStateException
                start h 3 false
                begin 0
                plays ! IllegalStateException
                moves 0 ! IllegalStateException
                roll 1 3 = 7
                plays = 7
                moves 0 = 2
                moves 6 = 2
                moves 7 ! IndexOutOfBoundsException
                moves -1 ! IndexOutOfBoundsException
                moveFrom 0 0 = 24
                moveTo 0 0 = 21
                moveFrom 0 1 = 23
                moveTo 0 1 = 22
                moveFrom 1 1 = 22
                moveTo 1 1 = 21
                moveFrom 2 1 = 21
                moveTo 2 1 = 20
                moveFrom 3 0 = 23
                moveTo 3 0 = 20
                moveFrom 3 1 = 22       // not 24, for the play 2 leads there
                moveTo 3 1 = 21
                moveFrom 4 1 = 20
                moveFrom 5 0 = 22
                moveFrom 5 1 = 24
                moveFrom 6 0 = 22
                moveFrom 6 1 = 19
                moveFrom 0 2 ! IndexOutOfBoundsException
                moveFrom 0 -1 ! IndexOutOfBoundsException
                moveTo 0 2 ! IndexOutOfBoundsException
                moveTo 0 -1 ! IndexOutOfBoundsException
                moveFrom 7 0 ! IndexOutOfBoundsException
                moveTo -1 0 ! IndexOutOfBoundsException
                move 24 3
                plays = 7
                moveFrom 0 0 = 24
                play 0
                plays ! IllegalStateException
                roll 2 2
                moves 0 = 4
                """);
        run("12 the order of moves by dice alike", """
                start b 3 false
                begin 0
                roll 5 5 = 4
                moveFrom 0 0 = 13
                moveFrom 0 1 = 13
                moveFrom 0 2 = 13
                moveFrom 0 3 = 13
                moveFrom 1 3 = 8
                moveFrom 2 2 = 8
                moveFrom 2 3 = 8
                moveFrom 3 1 = 8
                moveTo 3 1 = 3
                """);
        run("plays: all men on the bar are blocked", """
                start n 0 false
                begin 0
                turns 64#4 11#37
                men 0 25 = 1
                roll 6 5 = 1
                moves 0 = 0
                moveFrom 0 0 ! IndexOutOfBoundsException
                moveTo 0 0 ! IndexOutOfBoundsException
                move 25 6 ! UnsupportedOperationException
                move 13 6 ! UnsupportedOperationException
                finish = 0
                turn = 1
                playedAt 2 = 0
                rolledAt 2 = 65
                isSound = true
                """);
        run("plays: each of both dice by itself, so the greater one", """
                start h 0 false
                begin 0
                turns 66#9 13#2 45#4 32#0 55#2 41#1
                men 0 14 = 1
                men 0 1 = 2
                men 1 20 = 2            // that is the point 5
                roll 4 5 = 1
                moves 0 = 1
                moveFrom 0 0 = 14
                moveTo 0 0 = 9
                move 14 4 = true        // it can be made by itself
                finish ! UnsupportedOperationException
                undo = 1
                move 14 5
                finish = 0
                """);
        run("plays: just the greater die", """
                start h 0 false
                begin 0
                turns 66#0 52#3 55#0 44#0 52#1 26#4
                roll 4 5 = 1
                moves 0 = 1
                moveTo 0 0 = 2
                """);
        run("plays: just the lesser die, three ways", """
                start n 0 false
                begin 0
                turns 66#0
                roll 5 6 = 3
                moves 2 = 1
                moveFrom 0 0 = 13
                moveTo 0 0 = 8
                """);
        run("plays: dice alike, as many as can be", """
                start h 0 false
                begin 0
                turns 46#4 56#4 43#4
                roll 6 6 = 1
                moves 0 = 3
                moveFrom 0 0 = 24
                moveTo 0 2 = 6
                """);
        run("14 play", """
                play 0 ! IllegalStateException
                start h 3 false
                begin 0
                play 0 ! IllegalStateException
                play -1 ! IllegalStateException
                roll 3 1 = 7
                play -1 ! IndexOutOfBoundsException
                play 7 ! IndexOutOfBoundsException
                move 22 1
                play 2 = 0
                men 0 22 = 1            // the single move is taken back
                men 0 20 = 1
                men 0 24 = 0
                played = 1
                turn = 1
                roll 6 6 = 12
                play 0 = 0
                roll 2 1
                play 0
                state = d
                """);
        run("14 play hits", """
                start h 0 false
                begin 0
                turns 55#13 21#2 55#3 21#1
                men 1 25 = 0
                men 0 25 = 1
                roll 5 5 = 4
                play 0 = 0
                hitShare = 0.6          // of five plays, the first, the third and the fourth
                """);
        run("14 play ends a game", """
                start h 0 false
                begin 0
                turns 66#0 21#5 66#0 21#2
                state = d
                roll 6 6
                play 0 = 1
                state = -
                men 0 0 = 3
                men 1 25 = 1
                won = 3
                score 0 = 3
                roll 1 1 ! IllegalStateException
                """);
        run("15 move, 16 undo, 17 finish", """
                move 24 6 ! IllegalStateException
                undo ! IllegalStateException
                finish ! IllegalStateException
                start b 3 false
                begin 0
                move 24 6 ! IllegalStateException
                undo ! IllegalStateException
                finish ! IllegalStateException
                roll 6 2
                undo = 0
                finish ! UnsupportedOperationException
                move 24 5 ! UnsupportedOperationException
                move 24 0 ! UnsupportedOperationException
                move 24 -6 ! UnsupportedOperationException
                move 23 6 ! UnsupportedOperationException
                move 25 6 ! UnsupportedOperationException
                move 26 6 ! UnsupportedOperationException
                move 0 6 ! UnsupportedOperationException
                move -1 6 ! UnsupportedOperationException
                move -2147483648 2 ! UnsupportedOperationException
                move 6 6 ! UnsupportedOperationException    // not all men are at home
                move 24 6 = false
                men 0 24 = 1
                men 0 18 = 1
                move 24 6 ! UnsupportedOperationException   // this die is used
                finish ! UnsupportedOperationException      // both must be
                men 0 18 = 1
                undo = 1
                undo = 0
                men 0 24 = 2
                move 24 6
                move 13 2 = false
                move 13 2 ! UnsupportedOperationException
                worth 0 = 14            // 8 pips, 3 points with two or more, and 3 men alone
                state = r
                """);
        run("15 move hits, four by dice alike", """
                start h 0 false
                begin 0
                turns 55#13
                men 1 25 = 1
                roll 1 1
                move 24 1 ! UnsupportedOperationException   // the man on the bar first
                move 25 1 = false
                move 24 1 = false
                move 23 1 = true
                men 0 25 = 1
                move 22 1 = false
                move 21 1 ! UnsupportedOperationException   // four were made
                undo = 4
                men 1 25 = 1
                men 0 25 = 0
                move 25 1
                move 24 1
                undo = 2
                """);
        run("17 finish by another row that leads there", """
                start h 3 false
                begin 0
                roll 3 1
                move 23 1
                move 24 3
                men 0 24 = 0
                finish = 0
                playedAt 0 = 0
                turn = 1
                isSound = true
                """);
        run("17 finish by fewer moves that lead where a play does", """
                start h 0 false
                begin 0
                turns 66#0 26#3 66#0 55#3 46#2 65#2
                men 0 6 = 1
                men 0 5 = 1
                men 0 0 = 1
                roll 1 6 = 2
                moves 0 = 2
                move 6 6
                finish = 1
                men 0 0 = 2
                men 0 5 = 1
                isSound = true
                """);
    }

    private static void positions() {
        run("18 men, 19 pips", """
                men 2 0 ! IllegalArgumentException
                men -1 26 ! IllegalArgumentException
                men 0 26 ! IndexOutOfBoundsException
                men 1 -1 ! IndexOutOfBoundsException
                pips 2 ! IllegalArgumentException
                pips -1 ! IllegalArgumentException
                pips 1 = 0
                start b 3 false
                men 1 24 = 0
                begin 0
                men 0 24 = 2
                men 0 13 = 5
                men 0 8 = 3
                men 0 6 = 5
                men 1 24 = 2
                men 1 6 = 5
                men 0 0 = 0
                men 0 25 = 0
                men 1 1 = 0
                pips 0 = 167
                pips 1 = 167
                roll 6 2
                move 24 6
                pips 0 = 161
                men 0 18 = 1
                undo
                pips 0 = 167
                play 0
                pips 0 = 159
                """);
        run("18 men of the variant n", """
                start n 3 false
                begin 1
                men 0 24 = 2
                men 0 23 = 2
                men 1 13 = 4
                men 1 8 = 3
                men 1 6 = 4
                pips 1 = 194
                """);
        run("18 men of the variant h, with the bar", """
                start h 3 false
                begin 0
                men 0 24 = 1
                men 1 23 = 1
                men 1 22 = 1
                pips 1 = 69
                turns 55#13             // hits the man on 22
                men 1 25 = 1
                men 1 22 = 0
                pips 1 = 72
                offer
                drop
                men 1 25 = 1            // as the last game ended
                pips 1 = 72
                begin 0
                men 1 25 = 0
                """);
    }

    private static void cube() {
        run("20 cube, 21 owner, 22 offer, 23 take", """
                offer ! IllegalStateException
                take ! IllegalStateException
                start b 25 false
                offer ! IllegalStateException
                begin 0
                cube = 1
                owner = -1
                take ! IllegalStateException
                offer = 2
                cube = 1
                owner = -1
                offer ! IllegalStateException
                take = 2
                cube = 2
                owner = 1
                turn = 0
                take ! IllegalStateException
                offer ! UnsupportedOperationException
                roll 6 1
                offer ! IllegalStateException
                take ! IllegalStateException
                play 0
                offer = 4
                take = 4
                owner = 0
                turns 61#0
                offer = 8
                take = 8
                turns 61#0
                offer = 16
                take
                turns 61#0
                offer = 32
                take
                turns 61#0
                offer = 64
                take = 64
                owner = 0
                turns 61#0
                cube = 64
                offer ! UnsupportedOperationException
                state = d
                """);
        run("22 offer by each side while the cube is nobody's", """
                start b 3 false
                begin 1
                turns 61#0 61#0
                offer = 2
                take = 2
                owner = 0
                turns 61#0
                offer = 4
                """);
        run("24 drop", """
                drop ! IllegalStateException
                start b 7 false
                begin 1
                drop ! IllegalStateException
                offer
                drop = 1
                drop ! IllegalStateException
                score 1 = 1
                score 0 = 0
                won = 1
                cube = 1
                begin 0
                offer
                take
                turns 61#0
                offer = 4
                drop = 2                // the cube as it was
                score 1 = 3
                cube = 2
                owner = 1
                state = -
                begin 0
                cube = 1
                owner = -1
                """);
        run("25 beaver", """
                beaver ! IllegalStateException
                start b 0 false
                begin 0
                beaver ! IllegalStateException
                offer = 2
                beaver = 4
                cube = 4
                owner = 1
                turn = 0
                state = d
                beaver ! IllegalStateException
                offer ! UnsupportedOperationException
                turns 61#0
                offer = 8
                beaver = 16
                owner = 0
                turns 61#0
                offer = 32
                beaver = 64             // just so many
                owner = 1
                turns 61#0
                offer ! UnsupportedOperationException
                """);
        run("25 beaver beyond 64, or in a match", """
                start b 0 false
                begin 0
                offer
                take
                turns 61#0
                offer
                beaver
                turns 61#0
                offer
                take
                turns 61#0
                cube = 16
                owner = 1
                offer = 32
                beaver = 64
                start b 5 false ! IllegalStateException
                """);
        run("25 beaver, 128 would be too many", """
                start b 0 false
                begin 0
                offer
                beaver
                turns 61#0
                offer
                beaver
                turns 61#0
                offer = 32
                take = 32
                turns 61#0
                offer = 64
                beaver ! UnsupportedOperationException
                state = t
                take = 64
                """);
        run("25 beaver in a match", """
                start b 5 false
                begin 0
                offer
                beaver ! UnsupportedOperationException
                cube = 1
                state = t
                """);
    }

    private static void judging() {
        run("26 worth", """
                worth 0 ! IllegalStateException
                worth 2 ! IllegalArgumentException
                start b 5 false
                worth 0 ! IllegalStateException
                begin 0
                worth 2 ! IllegalArgumentException
                worth -1 ! IllegalArgumentException
                worth 0 = 24
                worth 1 = 24
                roll 3 1
                move 8 3
                move 6 1
                worth 0 = 34            // 4 pips, 5 points
                worth 1 = 20
                finish
                offer
                worth 0 = 34
                drop
                worth 0 ! IllegalStateException
                """);
        run("26 worth with men on the bar", """
                start h 5 false
                begin 0
                worth 0 = -12
                worth 1 = -12
                roll 5 5
                play 13                 // 24, 22 and 3, a man of the other side on the bar
                worth 0 = 19            // 72 - 49 = 23 pips, 3 men alone before a man on the bar, and 8
                worth 1 = -31           // 23 pips, 24 and 23 alone
                """);
        run("26 worth with men off", """
                start h 0 false
                begin 0
                turns 66#0 66#0 55#3 66#0 55#0 11#0 54#0 65#1
                men 0 1 = 1
                men 0 0 = 2
                men 1 6 = 1
                men 1 0 = 2
                worth 0 = 25            // 5 pips and two men off, none is alone before another
                worth 1 = 15
                """);
        run("27 best, 28 error", """
                best ! IllegalStateException
                error 0 ! IllegalStateException
                start b 5 false
                begin 0
                best ! IllegalStateException
                error 0 ! IllegalStateException
                error -1 ! IllegalStateException
                roll 3 1 = 16
                best = 10               // makes the point 5
                moveFrom 10 0 = 8
                moveFrom 10 1 = 6
                error 10 = 0
                error 2 = 24            // 10 against 34
                error 15 = 10
                error 16 ! IndexOutOfBoundsException
                error -1 ! IndexOutOfBoundsException
                move 24 3
                best = 10
                play 10
                best ! IllegalStateException
                meanError = 0.0
                roll 3 1
                play 0
                meanError = 10.0
                """);
        run("27 best, of several the first", """
                start h 3 false
                begin 0
                roll 3 1
                best = 0
                error 0 = 0
                error 1 = 0
                """);
        run("29 deep", """
                deep 0 ! IllegalStateException
                start h 3 false
                begin 0
                deep 0 ! IllegalStateException
                roll 3 1
                deep 7 ! IndexOutOfBoundsException
                deep -1 ! IndexOutOfBoundsException
                play 2
                turns 55#0 66#0 44#0
                roll 6 5 = 5
                deep 0 = -506
                state = r
                men 0 25 = 1
                isSound = true
                play 1 = 1
                deep 0 ! IllegalStateException
                """);
        run("30 chance", """
                chance ! IllegalStateException
                start h 0 false
                begin 0
                chance ! UnsupportedOperationException
                offer
                chance ! IllegalStateException
                take
                turns 66#0 66#0 55#3 66#0 55#0 11#0
                chance ! UnsupportedOperationException
                turns 54#0 65#1
                chance = 1.0            // 1 against 6
                roll 1 1
                chance ! IllegalStateException
                play 0
                chance ! IllegalStateException
                """);
        run("30 chance, 6 against 4", """
                start h 0 false
                begin 0
                turns 33#0 61#0 66#1 62#1 12#1 66#1 22#2 46#0 44#1 66#0
                men 0 6 = 1
                men 1 4 = 1
                men 0 0 = 2
                chance = 0.7638888888888888     // 27 rolls, and 9 times 2 of 36
                roll 2 1
                play 0
                chance = 0.9444444444444444
                """);
        run("30 chance, two men against two", """
                start h 0 false
                begin 0
                turns 66#0 66#11 55#3 55#0 45#0 33#0 11#1 24#1
                men 0 6 = 2
                men 1 4 = 2
                men 1 0 = 1
                chance = 0.5805987135683924
                """);
        run("31 setRate, 32 equity", """
                setRate 101 ! IllegalArgumentException
                setRate -1 ! IllegalArgumentException
                equity 1 1 = 500000
                equity 2 1 = 312500
                equity 1 2 = 687500
                equity 3 1 = 179687
                equity 2 2 = 500000
                equity 0 25 = 1000000
                equity 25 0 = 0
                equity 0 0 ! IllegalArgumentException
                equity 26 1 ! IllegalArgumentException
                equity 1 26 ! IllegalArgumentException
                equity -1 1 ! IllegalArgumentException
                equity 1 -1 ! IllegalArgumentException
                equity 25 25 = 499985
                setRate 0 = 25
                equity 2 1 = 250000
                setRate 100 = 0
                equity 2 1 = 500000
                setRate 33 = 100
                setRate 33 = 33
                """);
    }

    private static void players() {
        run("33 seat", """
                seat 2 ! IllegalArgumentException
                seat 7 ! IllegalArgumentException
                seat 4 = 0              // how many were seated
                seat 6 = 4
                seat 3 = 6
                account 2 = 0
                account 3 ! IndexOutOfBoundsException
                start b 0 false
                seat 5 = 3
                begin 0
                seat 4 ! IllegalStateException
                seat 2 ! IllegalArgumentException
                offer
                seat 4 ! IllegalStateException
                drop
                account 0 = 4
                account 4 = -1
                captain = 2
                seat 5 = 5              // in place of others
                account 0 = 0
                account 4 = 0
                captain = 1
                inLine 2 = 4
                """);
        run("33 seat ahead of a match that is not for money", """
                start b 1 false
                seat 3 ! IllegalStateException
                begin 0
                offer
                drop
                seat 3 ! IllegalStateException
                box ! NoSuchElementException
                start b 0 false
                seat 3 = 0
                """);
        run("34 account, 35 box, 36 captain, 37 inLine", """
                account 0 ! IndexOutOfBoundsException
                box ! NoSuchElementException
                captain ! NoSuchElementException
                inLine 0 ! NoSuchElementException
                seat 4
                box = 0
                captain = 1
                inLine 0 = 2
                inLine 1 = 3
                inLine 2 ! NoSuchElementException
                inLine -1 ! NoSuchElementException
                inLine -2 ! NoSuchElementException
                inLine 2147483647 ! NoSuchElementException
                inLine -2147483648 ! NoSuchElementException
                account -1 ! IndexOutOfBoundsException
                account 4 ! IndexOutOfBoundsException
                start h 0 false
                begin 0
                offer
                take
                rush 3                  // the box wins 6 of each
                account 0 = 18
                account 1 = -6
                account 2 = -6
                account 3 = -6
                box = 0
                captain = 2
                inLine 0 = 3
                inLine 1 = 1
                begin 1
                rush 2                  // and loses 2 to each
                account 0 = 12
                account 1 = -4
                account 2 = -4
                account 3 = -4
                box = 2
                captain = 3
                inLine 0 = 1
                inLine 1 = 0
                begin 1
                offer
                drop
                account 2 = -7
                account 3 = -3
                account 1 = -3
                account 0 = 13
                box = 3
                captain = 1
                inLine 0 = 0
                inLine 1 = 2
                score 0 = 6
                score 1 = 3
                isSound = true
                """);
        run("37 inLine of three and of six", """
                seat 3
                inLine 0 = 2
                inLine 1 ! NoSuchElementException
                seat 6
                inLine 3 = 5
                inLine 4 ! NoSuchElementException
                start b 0 true
                begin 1
                offer
                drop
                box = 1
                captain = 2
                inLine 0 = 3
                inLine 3 = 0
                account 0 = -5
                """);
    }

    private static void records() {
        run("38 played, 39 playedAt, 40 rolledAt", """
                played = 0
                playedAt 0 ! IndexOutOfBoundsException
                rolledAt 0 ! IndexOutOfBoundsException
                start b 3 false
                begin 0
                roll 1 3
                played = 0
                rolledAt 0 ! IndexOutOfBoundsException
                play 2
                played = 1
                playedAt 0 = 2
                rolledAt 0 = 31
                roll 5 5
                play 1
                roll 2 6
                move 24 6
                move 13 2
                finish = 1
                played = 3
                playedAt 1 = 1
                rolledAt 1 = 55
                playedAt 2 = 1
                rolledAt 2 = 62
                playedAt 3 ! IndexOutOfBoundsException
                playedAt -1 ! IndexOutOfBoundsException
                rolledAt 3 ! IndexOutOfBoundsException
                rolledAt -1 ! IndexOutOfBoundsException
                offer
                drop
                played = 3
                playedAt 2 = 1
                begin 1
                played = 0
                playedAt 0 ! IndexOutOfBoundsException
                """);
        run("41 fairness", """
                fairness = 0
                start b 3 false
                begin 0
                roll 3 1
                fairness = 48           // 4 * 4 twice, 2 * 2 four times
                play 0
                roll 5 5
                fairness = 120          // 8 * 8, 2 * 2 twice, 4 * 4 three times
                roll 5 5 ! IllegalStateException
                roll 0 5 ! IllegalArgumentException
                fairness = 120
                play 0
                offer
                drop
                begin 0
                roll 6 6
                fairness = 144
                """);
        run("42 hitShare, 43 meanError", """
                hitShare ! NoSuchElementException
                meanError ! NoSuchElementException
                start h 3 false
                begin 0
                roll 3 1
                hitShare ! NoSuchElementException
                meanError ! NoSuchElementException
                play 2
                hitShare = 0.0
                turns 55#0 66#0 44#0 65#1
                hitShare = 0.6
                meanError = 11.6
                """);
        run("42 and 43 go on through all games", """
                start h 0 false
                begin 0
                turns 55#13
                hitShare = 1.0
                offer
                drop
                begin 0
                hitShare = 1.0
                turns 66#0
                hitShare = 0.5
                turns 21#0
                hitShare = 0.33333334
                """);
        run("44 isSound", """
                isSound = true
                start h 0 false
                isSound = true
                begin 1
                isSound = true
                roll 5 5
                isSound = true
                move 24 5
                isSound = true          // single moves are not yet a play
                play 13
                isSound = true
                offer
                isSound = true
                take
                rush 3
                isSound = true
                seat 3
                start b 0 false
                isSound = true
                begin 0
                isSound = true
                """);
    }

    public static void main(String[] args) {
        matches();
        rolls();
        positions();
        cube();
        judging();
        players();
        records();
        CHECKS.end("PromisesTest");
    }
}
