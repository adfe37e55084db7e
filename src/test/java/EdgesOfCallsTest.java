/**
 * The promises 1 to 44: each sentence that names a boundary case has a run of its own, which is headed by the number
 * of the promise, the call and the words of this sentence.
 */
public final class EdgesOfCallsTest {
    private static final Checks CHECKS = new Checks();

    private static void run(String sentence, String text) {
        Script.run(CHECKS, sentence, text);
    }

    private static void matches() {
        run("1 Creates a table without men", """
                stand 0
                stand 1
                pips 0 = 0
                pips 1 = 0
                isSound = true
                """);
        run("1 Creates a table without matches", """
                isOver ! IllegalStateException
                begin 0 ! IllegalStateException
                state = -
                score 0 = 0
                score 1 = 0
                won = 0
                played = 0
                fairness = 0
                """);
        run("1 Creates a table without players", """
                box ! NoSuchElementException
                captain ! NoSuchElementException
                inLine 0 ! NoSuchElementException
                account 0 ! IndexOutOfBoundsException
                """);
        run("2 start: 'b', 'n' or 'h'; Returns the men of each side", """
                start b 0 false = 15
                start n 0 false = 15
                start h 0 false = 3
                """);
        run("2 start: Throws IllegalArgumentException if there is no such variant", """
                start a 1 true ! IllegalArgumentException
                start c 1 true ! IllegalArgumentException
                start g 1 true ! IllegalArgumentException
                start i 1 true ! IllegalArgumentException
                start m 1 true ! IllegalArgumentException
                start o 1 true ! IllegalArgumentException
                start B 1 true ! IllegalArgumentException
                start N 1 true ! IllegalArgumentException
                start H 1 true ! IllegalArgumentException
                start #0 1 true ! IllegalArgumentException
                start #32 1 true ! IllegalArgumentException
                start #354 1 true ! IllegalArgumentException     // b, but for a higher byte
                start #65535 1 true ! IllegalArgumentException
                isOver ! IllegalStateException
                """);
        run("2 start: the length, 0 to 25", """
                start h 0 true = 3
                start h 1 true = 3
                start h 25 true = 3
                isOver = false
                """);
        run("2 start: Throws IllegalArgumentException if the length is out of range", """
                start b -1 true ! IllegalArgumentException
                start b 26 true ! IllegalArgumentException
                start b 256 true ! IllegalArgumentException
                start b 2147483647 true ! IllegalArgumentException
                start b -2147483648 true ! IllegalArgumentException
                isOver ! IllegalStateException
                """);
        run("2 start: Throws IllegalStateException if a game is on", """
                start b 2 true
                begin 0
                start h 0 true ! IllegalStateException
                roll 6 1
                start h 0 true ! IllegalStateException
                play 0
                offer
                start h 0 true ! IllegalStateException
                drop
                score 1 = 1                     // the match to 2 goes on
                start h 0 true = 3
                """);
        run("2 start: Throws IllegalStateException if players are seated, and it is not for money", """
                seat 3
                start b 1 true ! IllegalStateException
                start b 25 true ! IllegalStateException
                isOver ! IllegalStateException
                start b 0 true = 15
                start n 0 true = 15
                """);
        run("2 start: in place of the one before", """
                start h 1 false
                begin 0
                offer
                drop
                isOver = true
                start h 3 false
                isOver = false
                score 0 = 0
                begin 0 = false
                offer
                drop
                start b 0 false
                score 0 = 0
                begin 0
                men 0 13 = 5
                """);
        run("2 start: in place of the one before, ahead of its game by Crawford's rule", """
                start h 2 false
                begin 0
                offer
                drop
                start h 2 false
                begin 0 = false
                offer = 2
                drop
                begin 0 = true
                """);
        run("2 start: records, rolls and the table stay", """
                seat 4
                start h 0 false
                begin 0
                turns 55#13
                offer
                drop
                start b 0 false
                played = 1
                playedAt 0 = 13
                rolledAt 0 = 55
                fairness = 120
                hitShare = 1.0
                account 1 = 1
                box = 1
                captain = 2
                inLine 1 = 0
                won = 1
                men 0 3 = 1
                isSound = true
                """);
        run("3 begin: Throws IllegalArgumentException if there is no such side", """
                start b 0 true
                begin -1 ! IllegalArgumentException
                begin 2 ! IllegalArgumentException
                begin 2147483647 ! IllegalArgumentException
                begin -2147483648 ! IllegalArgumentException
                state = -
                begin 1 = false
                """);
        run("3 begin: Throws IllegalStateException if a game is on", """
                start b 0 true
                begin 0
                begin 1 ! IllegalStateException
                roll 6 1
                begin 1 ! IllegalStateException
                play 0
                offer
                begin 0 ! IllegalStateException
                turn = 0
                played = 1
                """);
        run("3 begin: Throws IllegalStateException if none was started", """
                begin 0 ! IllegalStateException
                begin 1 ! IllegalStateException
                seat 3
                begin 0 ! IllegalStateException
                """);
        run("3 begin: Throws IllegalStateException if the match is over", """
                start b 1 true
                begin 0
                offer
                drop
                begin 0 ! IllegalStateException
                begin 1 ! IllegalStateException
                played = 0
                start b 1 true
                begin 1 = false
                """);
        run("3 begin: Returns whether it is the one by Crawford's rule", """
                start b 2 true
                begin 0 = false
                offer
                drop
                begin 0 = true
                rush 1
                begin 0 ! IllegalStateException
                start b 2 true
                begin 0 = false
                """);
        run("4 state: '-' no game is on", """
                state = -
                start b 0 true
                state = -
                begin 0
                offer
                drop
                state = -
                """);
        run("4 state: '-' no game is on behind the last play", """
                start h 0 true
                begin 0
                rush 1
                state = -
                """);
        run("4 state: 'd' one is on roll", """
                start b 0 true
                begin 0
                state = d
                offer
                take
                state = d
                turns 61#0
                state = d
                offer
                beaver
                state = d
                """);
        run("4 state: 'r' a roll is to be played", """
                start b 0 true
                begin 0
                roll 6 1
                state = r
                move 24 6
                state = r
                move 24 1
                state = r
                undo
                state = r
                """);
        run("4 state: 't' a double is to be taken or dropped", """
                start b 0 true
                begin 0
                offer
                state = t
                """);
        run("5 turn: to roll, to play, or to take or drop", """
                start b 0 true
                begin 0
                turn = 0
                offer
                turn = 1
                take
                turn = 0
                roll 6 1
                turn = 0
                play 0
                turn = 1
                """);
        run("5 turn: Throws IllegalStateException if no game is on", """
                turn ! IllegalStateException
                start b 0 true
                turn ! IllegalStateException
                begin 0
                turn = 0
                offer
                drop
                turn ! IllegalStateException
                """);
        run("6 score: Returns their number, 0 without a match", """
                score 0 = 0
                score 1 = 0
                """);
        run("6 score: Throws IllegalArgumentException if there is no such side", """
                score 2 ! IllegalArgumentException
                score -1 ! IllegalArgumentException
                score 2147483647 ! IllegalArgumentException
                score -2147483648 ! IllegalArgumentException
                """);
        run("6 score: the points of a side in the match, not of those before", """
                start b 0 false
                begin 1
                offer
                drop
                score 1 = 1
                score 0 = 0
                start b 5 false
                score 1 = 0
                """);
        run("7 won: 0 if none ended", """
                won = 0
                start h 0 false
                won = 0
                begin 0
                turns 66#0
                won = 0
                """);
        run("7 won: the kind of the last game that ended, while the next is on", """
                start h 0 false
                begin 0
                rush 3
                won = 3
                begin 0
                won = 3
                turns 66#0
                won = 3
                offer
                drop
                won = 1
                start h 0 false
                won = 1
                """);
        run("7 won: as it counted", """
                start h 0 true
                begin 0
                rush 3
                won = 1
                """);
        run("8 isOver: Returns true if so, not for money", """
                start h 1 false
                isOver = false
                begin 0
                isOver = false
                rush 3
                isOver = true
                start h 0 false
                isOver = false
                begin 0
                rush 3
                isOver = false
                """);
        run("8 isOver: Throws IllegalStateException if none was started", """
                isOver ! IllegalStateException
                seat 3
                isOver ! IllegalStateException
                start h 0 false
                isOver = false
                """);
    }

    private static void rolls() {
        run("9 roll: a die, 1 to 6", """
                start b 0 false
                begin 0
                roll 1 6
                play 0
                roll 6 1
                rolledAt 0 = 61
                """);
        run("9 roll: Throws IllegalArgumentException if a die is out of range", """
                start b 0 false
                begin 0
                roll 0 1 ! IllegalArgumentException
                roll 1 0 ! IllegalArgumentException
                roll 7 6 ! IllegalArgumentException
                roll 6 7 ! IllegalArgumentException
                roll -1 1 ! IllegalArgumentException
                roll 1 -1 ! IllegalArgumentException
                roll 0 0 ! IllegalArgumentException
                roll 7 7 ! IllegalArgumentException
                roll 2147483647 1 ! IllegalArgumentException
                roll 1 -2147483648 ! IllegalArgumentException
                state = d
                fairness = 0
                """);
        run("9 roll: Throws IllegalStateException if nobody is on roll", """
                roll 1 1 ! IllegalStateException
                start b 0 false
                roll 1 1 ! IllegalStateException
                begin 0
                roll 6 1
                roll 1 1 ! IllegalStateException
                play 0
                offer
                roll 1 1 ! IllegalStateException
                drop
                roll 1 1 ! IllegalStateException
                """);
        run("9 roll: Returns how many plays there are", """
                start h 0 false
                begin 0
                roll 1 3 = 7
                plays = 7
                """);
        run("10 plays: Throws IllegalStateException if there is no roll to be played", """
                plays ! IllegalStateException
                start h 0 false
                plays ! IllegalStateException
                begin 0
                plays ! IllegalStateException
                roll 1 3
                plays = 7
                play 0
                plays ! IllegalStateException
                offer
                plays ! IllegalStateException
                drop
                plays ! IllegalStateException
                """);
        run("10 plays: single moves do not matter", """
                start h 0 false
                begin 0
                roll 1 3
                move 24 3
                plays = 7
                moves 6 = 2
                moveFrom 0 0 = 24
                moveTo 0 0 = 21
                best = 0
                error 6 = 14                    // three men alone, against a point and one alone
                """);
        run("11 moves: Throws IllegalStateException if there is no roll to be played", """
                moves 0 ! IllegalStateException
                start h 0 false
                moves 0 ! IllegalStateException
                begin 0
                moves 0 ! IllegalStateException
                turns 31#0
                moves 0 ! IllegalStateException
                offer
                moves 0 ! IllegalStateException
                drop
                moves 0 ! IllegalStateException
                """);
        run("11 moves: Throws IndexOutOfBoundsException if there is no such play", """
                start h 0 false
                begin 0
                roll 3 1
                moves 0 = 2
                moves 6 = 2
                moves 7 ! IndexOutOfBoundsException
                moves -1 ! IndexOutOfBoundsException
                moves 2147483647 ! IndexOutOfBoundsException
                moves -2147483648 ! IndexOutOfBoundsException
                """);
        run("11 moves: fewer plays than by the roll before", """
                start h 0 false
                begin 0
                turns 66#0
                roll 3 1
                plays = 7
                moves 7 ! IndexOutOfBoundsException
                moves 6 = 2
                moveFrom 0 2 ! IndexOutOfBoundsException
                """);
        for (String call : new String[] {"moveFrom", "moveTo"}) {
            String number = call.equals("moveFrom") ? "12 " : "13 ";
            run(number + call + ": Throws IllegalStateException if there is no roll to be played", """
                    CALL 0 0 ! IllegalStateException
                    start h 0 false
                    CALL 0 0 ! IllegalStateException
                    begin 0
                    CALL 0 0 ! IllegalStateException
                    turns 31#0
                    CALL 0 0 ! IllegalStateException
                    offer
                    CALL 0 0 ! IllegalStateException
                    drop
                    CALL 0 0 ! IllegalStateException
                    """.replace("CALL", call));
            run(number + call + ": Throws IndexOutOfBoundsException if there is no such play", """
                    start h 0 false
                    begin 0
                    roll 3 1
                    CALL 0 0
                    CALL 6 0
                    CALL 7 0 ! IndexOutOfBoundsException
                    CALL -1 0 ! IndexOutOfBoundsException
                    CALL 2147483647 0 ! IndexOutOfBoundsException
                    CALL -2147483648 0 ! IndexOutOfBoundsException
                    """.replace("CALL", call));
            run(number + call + ": Throws IndexOutOfBoundsException if there is no such move", """
                    start h 0 false
                    begin 0
                    roll 3 1
                    CALL 6 1
                    CALL 6 2 ! IndexOutOfBoundsException
                    CALL 6 -1 ! IndexOutOfBoundsException
                    CALL 6 2147483647 ! IndexOutOfBoundsException
                    CALL 6 -2147483648 ! IndexOutOfBoundsException
                    play 0
                    roll 2 2
                    CALL 0 3
                    CALL 0 4 ! IndexOutOfBoundsException
                    """.replace("CALL", call));
        }
        run("12 moveFrom: in the numbering of the side", """
                start h 0 false
                begin 1
                roll 3 1
                moveFrom 0 0 = 24
                moveFrom 6 0 = 22
                """);
        run("12 moveFrom: from the bar, 25", """
                start h 0 false
                begin 0
                turns 55#13
                roll 6 1
                moveFrom 0 0 = 25
                """);
        run("13 moveTo: in the numbering of the side", """
                start h 0 false
                begin 1
                roll 3 1
                moveTo 0 0 = 21
                moveTo 6 0 = 19
                """);
        run("13 moveTo: off, 0, by a die that is greater than the point", """
                start h 0 false
                begin 0
                go 66 24/18 23/17 22/16 17/11
                go 66 24/18 23/17 22/16 17/11
                go 66 18/12 16/10 12/6 11/5
                go 66 18/12 16/10 12/6 11/5
                stand 0 10:1 6:1 5:1
                go 54 10/5 6/2
                go 21 10/8 8/7
                stand 0 5:2 2:1
                roll 6 1 = 2
                moveFrom 0 0 = 5
                moveTo 0 0 = 0
                moveFrom 0 1 = 5
                moveTo 0 1 = 4
                moveFrom 1 1 = 2
                moveTo 1 1 = 1
                """);
        run("14 play: single moves are taken back ahead of it", """
                start h 0 false
                begin 0
                roll 5 5
                move 24 5
                move 19 5
                move 14 5
                play 13 = 1                     // 23 to 3, where a man is hit
                stand 0 24:1 22:1 3:1
                stand 1 25:1 24:1 23:1
                isSound = true
                """);
        run("14 play: single moves that hit are taken back ahead of it", """
                start h 0 false
                begin 0
                roll 5 5
                move 23 5
                move 18 5
                move 13 5
                move 8 5 = true
                men 1 25 = 1
                play 0 = 0
                men 1 25 = 0
                men 1 22 = 1
                hitShare = 0.0
                """);
        run("14 play: Returns how many men were hit: none, one and two", """
                start h 0 false
                begin 0
                roll 6 6
                play 0 = 0
                offer
                drop
                begin 0
                roll 5 5
                play 13 = 1
                offer
                drop
                begin 0
                go 66 24/18 23/17 22/16 16/10
                roll 4 4 = 15
                play 13 = 2
                men 0 25 = 2
                """);
        run("14 play: Throws IllegalStateException if there is no roll to be played", """
                play 0 ! IllegalStateException
                start h 0 false
                play 0 ! IllegalStateException
                begin 0
                play 0 ! IllegalStateException
                turns 31#0
                play 0 ! IllegalStateException
                offer
                play 0 ! IllegalStateException
                drop
                play 0 ! IllegalStateException
                played = 1
                """);
        run("14 play: Throws IndexOutOfBoundsException if there is no such play", """
                start h 0 false
                begin 0
                roll 3 1
                play 7 ! IndexOutOfBoundsException
                play -1 ! IndexOutOfBoundsException
                play 2147483647 ! IndexOutOfBoundsException
                play -2147483648 ! IndexOutOfBoundsException
                state = r
                played = 0
                play 6 = 0
                men 0 18 = 1
                """);
        run("15 move: Throws IllegalStateException if there is no roll to be played", """
                move 24 6 ! IllegalStateException
                start b 0 false
                move 24 6 ! IllegalStateException
                begin 0
                move 24 6 ! IllegalStateException
                turns 61#0
                move 24 6 ! IllegalStateException
                offer
                move 24 6 ! IllegalStateException
                drop
                move 24 6 ! IllegalStateException
                """);
        run("15 move: Throws UnsupportedOperationException if it cannot be made: no such point, or none of its men there", """
                start b 0 false
                begin 0
                roll 6 2
                move 26 6 ! UnsupportedOperationException
                move 26 2 ! UnsupportedOperationException
                move 25 6 ! UnsupportedOperationException
                move 23 6 ! UnsupportedOperationException
                move 12 6 ! UnsupportedOperationException
                move 0 6 ! UnsupportedOperationException
                move -1 6 ! UnsupportedOperationException
                move 2147483647 6 ! UnsupportedOperationException
                move -2147483648 6 ! UnsupportedOperationException
                move -2147483648 2 ! UnsupportedOperationException
                undo = 0
                """);
        run("15 move: Throws UnsupportedOperationException if it cannot be made, by a die that is left: no such die", """
                start b 0 false
                begin 0
                roll 6 2
                move 24 0 ! UnsupportedOperationException
                move 24 1 ! UnsupportedOperationException
                move 24 7 ! UnsupportedOperationException
                move 24 8 ! UnsupportedOperationException
                move 24 -6 ! UnsupportedOperationException
                move 13 -2 ! UnsupportedOperationException
                move 24 2147483647 ! UnsupportedOperationException
                move 24 -2147483648 ! UnsupportedOperationException
                undo = 0
                """);
        run("15 move: Throws UnsupportedOperationException if it cannot be made, by a die that is left: it is used", """
                start b 0 false
                begin 0
                roll 6 2
                move 13 6
                move 13 6 ! UnsupportedOperationException
                move 13 2
                move 13 2 ! UnsupportedOperationException
                undo = 2
                move 13 2
                move 13 2 ! UnsupportedOperationException
                move 13 6
                undo = 2
                """);
        run("15 move: by a die that is left: four of dice alike", """
                start b 0 false
                begin 0
                roll 2 2
                move 13 2
                move 13 2
                move 13 2
                move 13 2
                move 13 2 ! UnsupportedOperationException
                move 6 2 ! UnsupportedOperationException
                undo = 4
                """);
        run("15 move: Returns whether a man is hit", """
                start h 0 false
                begin 0
                roll 5 5
                move 23 5 = false
                move 18 5 = false
                move 13 5 = false
                move 8 5 = true
                """);
        run("15 move: is not yet a play", """
                start h 0 false
                begin 0
                roll 3 1
                move 24 3
                move 23 1
                state = r
                turn = 0
                played = 0
                hitShare ! NoSuchElementException
                """);
        run("16 undo: Returns how many there were: none", """
                start b 0 false
                begin 0
                roll 2 2
                undo = 0
                undo = 0
                """);
        run("16 undo: Takes all single moves back, with the men that were hit", """
                start h 0 false
                begin 0
                roll 5 5
                move 23 5
                move 18 5
                move 13 5
                move 8 5
                undo = 4
                stand 0 24:1 23:1 22:1
                stand 1 24:1 23:1 22:1
                undo = 0
                move 24 5
                undo = 1
                """);
        run("16 undo: those of the play before are not counted", """
                start b 0 false
                begin 0
                go 62 24/18 13/11
                roll 6 2
                undo = 0
                move 24 2 = false
                undo = 1
                """);
        run("16 undo: Throws IllegalStateException if there is no roll to be played", """
                undo ! IllegalStateException
                start b 0 false
                undo ! IllegalStateException
                begin 0
                undo ! IllegalStateException
                go 62 24/18 13/11
                undo ! IllegalStateException
                offer
                undo ! IllegalStateException
                drop
                undo ! IllegalStateException
                """);
        run("17 finish: Returns the number of the play that leads there", """
                start h 0 false
                begin 0
                roll 3 1
                move 22 3
                move 19 1
                finish = 6
                playedAt 0 = 6
                turn = 1
                """);
        run("17 finish: Throws IllegalStateException if there is no roll to be played", """
                finish ! IllegalStateException
                start h 0 false
                finish ! IllegalStateException
                begin 0
                finish ! IllegalStateException
                turns 31#0
                finish ! IllegalStateException
                offer
                finish ! IllegalStateException
                drop
                finish ! IllegalStateException
                """);
        run("17 finish: Throws UnsupportedOperationException if no play leads there", """
                start h 0 false
                begin 0
                roll 3 1
                finish ! UnsupportedOperationException
                move 22 3
                finish ! UnsupportedOperationException
                men 0 19 = 1
                undo = 1
                """);
        run("18 men: single moves included", """
                start h 0 false
                begin 0
                roll 5 5
                move 23 5
                men 0 23 = 0
                men 0 18 = 1
                move 18 5
                move 13 5
                move 8 5
                men 1 25 = 1
                men 1 22 = 0
                """);
        run("18 men: as the last game ended if none is on", """
                start h 0 false
                begin 0
                turns 55#13
                offer
                drop
                stand 0 24:1 22:1 3:1
                stand 1 25:1 24:1 23:1
                start b 0 false
                stand 0 24:1 22:1 3:1
                """);
        run("18 men: as the last game ended, by the last man off", """
                start h 0 false
                begin 0
                rush 3
                stand 0 0:3
                """);
        run("18 men: 0 ahead of the first one", """
                stand 0
                stand 1
                start b 0 false
                stand 0
                stand 1
                """);
        run("18 men: Throws IllegalArgumentException if there is no such side", """
                men 2 1 ! IllegalArgumentException
                men -1 1 ! IllegalArgumentException
                men 2147483647 1 ! IllegalArgumentException
                men -2147483648 1 ! IllegalArgumentException
                """);
        run("18 men: the point, 0 to 25", """
                men 0 0 = 0
                men 0 25 = 0
                men 1 0 = 0
                men 1 25 = 0
                """);
        run("18 men: Throws IndexOutOfBoundsException if there is no such point", """
                men 0 -1 ! IndexOutOfBoundsException
                men 0 26 ! IndexOutOfBoundsException
                men 1 -1 ! IndexOutOfBoundsException
                men 1 26 ! IndexOutOfBoundsException
                men 0 2147483647 ! IndexOutOfBoundsException
                men 1 -2147483648 ! IndexOutOfBoundsException
                """);
        run("19 pips: single moves included", """
                start h 0 false
                begin 0
                pips 0 = 69
                roll 5 5
                move 23 5
                pips 0 = 64
                move 18 5
                move 13 5
                move 8 5
                pips 0 = 49
                pips 1 = 72
                undo
                pips 0 = 69
                pips 1 = 69
                """);
        run("19 pips: men off have none", """
                start h 0 false
                begin 0
                rush 3
                pips 0 = 0
                """);
        run("19 pips: Throws IllegalArgumentException if there is no such side", """
                pips 2 ! IllegalArgumentException
                pips -1 ! IllegalArgumentException
                pips 2147483647 ! IllegalArgumentException
                pips -2147483648 ! IllegalArgumentException
                """);
    }

    private static void cube() {
        run("20 cube: Returns 1 at first", """
                cube = 1
                start b 0 false
                cube = 1
                """);
        run("20 cube: that of the last game if none is on", """
                start b 0 false
                begin 0
                offer
                beaver
                turns 61#0
                offer
                drop
                cube = 4
                start b 5 false
                cube = 4
                begin 0
                cube = 1
                """);
        run("21 owner: Returns the side, or -1", """
                owner = -1
                start b 0 false
                begin 0
                owner = -1
                offer
                owner = -1
                take
                owner = 1
                """);
        run("21 owner: that of the last game if none is on", """
                start b 0 false
                begin 0
                offer
                take
                turns 61#0
                offer
                drop
                owner = 1
                start b 5 false
                owner = 1
                begin 0
                owner = -1
                """);
        run("22 offer: Throws IllegalStateException if nobody is on roll", """
                offer ! IllegalStateException
                start b 0 false
                offer ! IllegalStateException
                begin 0
                roll 6 1
                offer ! IllegalStateException
                play 0
                offer = 2
                offer ! IllegalStateException
                drop
                offer ! IllegalStateException
                """);
        run("22 offer: Throws UnsupportedOperationException if this side cannot double: the cube is the other's", """
                start b 0 false
                begin 0
                offer
                take
                offer ! UnsupportedOperationException
                state = d
                turn = 0
                """);
        run("22 offer: Throws UnsupportedOperationException if this side cannot double: Crawford's rule", """
                start b 2 false
                begin 0
                offer
                drop
                begin 1
                offer ! UnsupportedOperationException
                state = d
                turn = 1
                """);
        run("22 offer: Returns what the cube would be, and does not turn it", """
                start b 0 false
                begin 0
                offer = 2
                cube = 1
                drop = 1
                cube = 1
                """);
        run("23 take: Throws IllegalStateException if there is none", """
                take ! IllegalStateException
                start b 0 false
                take ! IllegalStateException
                begin 0
                take ! IllegalStateException
                roll 6 1
                take ! IllegalStateException
                play 0
                offer
                take = 2
                take ! IllegalStateException
                cube = 2
                """);
        run("24 drop: Throws IllegalStateException if there is none", """
                drop ! IllegalStateException
                start b 0 false
                drop ! IllegalStateException
                begin 0
                drop ! IllegalStateException
                roll 6 1
                drop ! IllegalStateException
                play 0
                offer
                drop = 1
                drop ! IllegalStateException
                score 1 = 1
                """);
        run("24 drop: Returns the points that are won, by Jacoby's rule, too", """
                start b 0 true
                begin 0
                offer
                beaver
                turns 61#0
                offer = 8
                drop = 4
                score 1 = 4
                won = 1
                """);
        run("25 beaver: Throws IllegalStateException if there is none", """
                beaver ! IllegalStateException
                start b 0 false
                beaver ! IllegalStateException
                begin 0
                beaver ! IllegalStateException
                roll 6 1
                beaver ! IllegalStateException
                play 0
                offer
                beaver = 4
                beaver ! IllegalStateException
                cube = 4
                """);
        run("25 beaver: Throws UnsupportedOperationException if it is not for money", """
                start b 1 false
                begin 0
                offer
                beaver ! UnsupportedOperationException
                state = t
                cube = 1
                take = 2
                """);
        run("25 beaver: Throws UnsupportedOperationException if the cube would be more than 64", """
                start b 0 false
                begin 0
                offer
                beaver = 4
                turns 61#0
                offer
                take = 8
                turns 61#0
                offer
                beaver = 32
                turns 61#0
                offer = 64
                beaver ! UnsupportedOperationException
                state = t
                drop = 32
                """);
    }

    private static void judging() {
        run("26 worth: single moves included", """
                start b 0 false
                begin 0
                roll 3 1
                worth 0 = 24
                move 8 3
                worth 0 = 23                    // 3 pips, and 5 alone before others
                move 6 1
                worth 0 = 34
                worth 1 = 20
                undo
                worth 0 = 24
                """);
        run("26 worth: Throws IllegalArgumentException if there is no such side", """
                start b 0 false
                begin 0
                worth 2 ! IllegalArgumentException
                worth -1 ! IllegalArgumentException
                worth 2147483647 ! IllegalArgumentException
                worth -2147483648 ! IllegalArgumentException
                """);
        run("26 worth: Throws IllegalStateException if no game is on", """
                worth 0 ! IllegalStateException
                start b 0 false
                worth 1 ! IllegalStateException
                begin 0
                worth 1 = 24
                offer
                worth 1 = 24
                drop
                worth 1 ! IllegalStateException
                """);
        run("27 best: of several the first one", """
                start h 0 false
                begin 0
                roll 3 1
                best = 0
                error 0 = 0
                error 1 = 0
                error 2 = 14
                error 3 = 14
                error 5 = 0
                """);
        run("27 best: of several the first one, behind worse ones", """
                start b 0 false
                begin 0
                roll 2 1 = 15
                best = 5                        // 13/11/10, as good as 8/6/5 and 6/4/3
                error 0 = 10
                error 4 = 14
                error 5 = 0
                error 10 = 0
                error 14 = 0
                """);
        run("27 best: Throws IllegalStateException if there is no roll to be played", """
                best ! IllegalStateException
                start h 0 false
                best ! IllegalStateException
                begin 0
                best ! IllegalStateException
                turns 31#0
                best ! IllegalStateException
                offer
                best ! IllegalStateException
                drop
                best ! IllegalStateException
                """);
        for (String call : new String[] {"28 error", "29 deep"}) {
            run(call + ": Throws IllegalStateException if there is no roll to be played", """
                    CALL 0 ! IllegalStateException
                    start h 0 false
                    CALL 0 ! IllegalStateException
                    begin 0
                    CALL 0 ! IllegalStateException
                    turns 31#0
                    CALL 0 ! IllegalStateException
                    offer
                    CALL 0 ! IllegalStateException
                    drop
                    CALL 0 ! IllegalStateException
                    """.replace("CALL", call.substring(3)));
            run(call + ": Throws IndexOutOfBoundsException if there is no such play", """
                    start h 0 false
                    begin 0
                    roll 3 1
                    CALL 0
                    CALL 6
                    CALL 7 ! IndexOutOfBoundsException
                    CALL -1 ! IndexOutOfBoundsException
                    CALL 2147483647 ! IndexOutOfBoundsException
                    CALL -2147483648 ! IndexOutOfBoundsException
                    """.replace("CALL", call.substring(3)));
        }
        run("28 error: 0 for the only play", """
                start b 0 false
                begin 0
                go 36 13/7 24/21
                go 55 8/3 8/3 6/1 6/1
                roll 3 1 = 1
                error 0 = 0
                """);
        run("29 deep: changes nothing, single moves neither", """
                start h 0 false
                begin 0
                turns 31#2 55#0 66#0 44#0
                roll 6 5 = 5
                move 25 6
                deep 0 = -506
                men 0 19 = 1
                undo = 1
                deep 0 = -506
                state = r
                turn = 0
                plays = 5
                """);
        run("30 chance: Throws IllegalStateException if nobody is on roll", """
                chance ! IllegalStateException
                start h 0 false
                chance ! IllegalStateException
                begin 0
                offer
                chance ! IllegalStateException
                take
                roll 6 6
                chance ! IllegalStateException
                play 0
                offer
                drop
                chance ! IllegalStateException
                """);
        run("30 chance: Throws UnsupportedOperationException if this is no such ending", """
                start h 0 false
                begin 0
                chance ! UnsupportedOperationException
                turns 66#0
                chance ! UnsupportedOperationException
                """);
        run("31 setRate: the rate, 0 to 100; Returns the rate before, 25 at first", """
                setRate 0 = 25
                setRate 100 = 0
                setRate 25 = 100
                setRate 25 = 25
                """);
        run("31 setRate: Throws IllegalArgumentException if it is out of range", """
                setRate -1 ! IllegalArgumentException
                setRate 101 ! IllegalArgumentException
                setRate 2147483647 ! IllegalArgumentException
                setRate -2147483648 ! IllegalArgumentException
                setRate 7 = 25
                """);
        run("31 setRate: a new match leaves it", """
                setRate 100
                start b 3 false
                begin 0
                equity 2 1 = 500000
                setRate 1 = 100
                """);
        run("32 equity: how many points a side needs, 0 to 25: 0", """
                equity 0 25 = 1000000
                equity 25 0 = 0
                """);
        run("32 equity: how many points a side needs, 0 to 25: 25", """
                equity 25 25 = 499985           // by a new object, where nothing else was asked for
                equity 25 1 = EQUITY
                """.replace("EQUITY", "" + Oracle.equity(25, 1, 25, new java.util.HashMap<>())));
        run("32 equity: Throws IllegalArgumentException if a number is out of range", """
                equity -1 5 ! IllegalArgumentException
                equity 5 -1 ! IllegalArgumentException
                equity 26 5 ! IllegalArgumentException
                equity 5 26 ! IllegalArgumentException
                equity 0 26 ! IllegalArgumentException
                equity 26 0 ! IllegalArgumentException
                equity -1 0 ! IllegalArgumentException
                equity 2147483647 1 ! IllegalArgumentException
                equity 1 -2147483648 ! IllegalArgumentException
                """);
        run("32 equity: Throws IllegalArgumentException if both are 0", """
                equity 0 0 ! IllegalArgumentException
                equity 0 1 = 1000000
                equity 1 0 = 0
                """);
    }

    private static void players() {
        run("33 seat: how many, 3 to 6", """
                seat 3
                seat 4
                seat 5
                seat 6
                inLine 3 = 5
                """);
        run("33 seat: Throws IllegalArgumentException if it is out of range", """
                seat 2 ! IllegalArgumentException
                seat 7 ! IllegalArgumentException
                seat 0 ! IllegalArgumentException
                seat -3 ! IllegalArgumentException
                seat 2147483647 ! IllegalArgumentException
                seat -2147483648 ! IllegalArgumentException
                box ! NoSuchElementException
                """);
        run("33 seat: Throws IllegalStateException if a game is on", """
                start b 0 false
                begin 0
                seat 3 ! IllegalStateException
                roll 6 1
                seat 3 ! IllegalStateException
                play 0
                offer
                seat 3 ! IllegalStateException
                drop
                seat 3 = 0
                """);
        run("33 seat: Throws IllegalStateException if a match that is not for money was started", """
                start b 1 false
                seat 3 ! IllegalStateException
                begin 0
                offer
                drop
                isOver = true
                seat 3 ! IllegalStateException
                box ! NoSuchElementException
                start b 0 false
                seat 3 = 0
                """);
        run("33 seat: with nothing on their accounts, in place of others", """
                seat 6
                start b 0 false
                begin 1
                offer
                drop
                account 0 = -5
                account 5 = 1
                seat 4 = 6
                account 0 = 0
                account 3 = 0
                account 4 ! IndexOutOfBoundsException
                box = 0
                captain = 1
                inLine 1 = 3
                inLine 2 ! NoSuchElementException
                isSound = true
                seat 6 = 4
                account 5 = 0
                """);
        run("34 account: Throws IndexOutOfBoundsException if there is no such player", """
                account 0 ! IndexOutOfBoundsException
                seat 3
                account 0 = 0
                account 2 = 0
                account 3 ! IndexOutOfBoundsException
                account -1 ! IndexOutOfBoundsException
                account 2147483647 ! IndexOutOfBoundsException
                account -2147483648 ! IndexOutOfBoundsException
                """);
        run("34 account: games ahead of the seating do not count", """
                start b 0 false
                begin 1
                offer
                drop
                seat 3
                account 0 = 0
                account 1 = 0
                box = 0
                score 1 = 1
                """);
        run("35 box: Throws NoSuchElementException if none are seated", """
                box ! NoSuchElementException
                start b 0 false
                begin 0
                offer
                drop
                box ! NoSuchElementException
                seat 3
                box = 0
                """);
        run("36 captain: Throws NoSuchElementException if none are seated", """
                captain ! NoSuchElementException
                start b 0 false
                begin 0
                offer
                drop
                captain ! NoSuchElementException
                seat 3
                captain = 1
                """);
        run("37 inLine: Throws NoSuchElementException if there is nobody", """
                inLine 0 ! NoSuchElementException
                inLine -1 ! NoSuchElementException
                seat 3
                inLine 0 = 2
                inLine 1 ! NoSuchElementException
                inLine -1 ! NoSuchElementException
                inLine -2 ! NoSuchElementException
                inLine 2147483647 ! NoSuchElementException
                inLine 2147483646 ! NoSuchElementException
                inLine -2147483648 ! NoSuchElementException
                """);
    }

    private static void records() {
        run("38 played: in the game that is on, or was last", """
                played = 0
                start b 0 false
                played = 0
                begin 0
                played = 0
                roll 6 1
                played = 0
                play 0
                played = 1
                offer
                drop
                played = 1
                begin 0
                played = 0
                """);
        run("39 playedAt: Throws IndexOutOfBoundsException if there was no such turn", """
                playedAt 0 ! IndexOutOfBoundsException
                start b 0 false
                begin 0
                roll 3 1
                playedAt 0 ! IndexOutOfBoundsException
                play 5
                playedAt 0 = 5
                playedAt 1 ! IndexOutOfBoundsException
                playedAt -1 ! IndexOutOfBoundsException
                playedAt 2147483647 ! IndexOutOfBoundsException
                playedAt -2147483648 ! IndexOutOfBoundsException
                turns 61#3
                playedAt 1 = 3
                offer
                drop
                playedAt 1 = 3
                begin 0
                playedAt 0 ! IndexOutOfBoundsException
                """);
        run("40 rolledAt: Throws IndexOutOfBoundsException if there was no such turn", """
                rolledAt 0 ! IndexOutOfBoundsException
                start b 0 false
                begin 0
                roll 3 1
                rolledAt 0 ! IndexOutOfBoundsException
                play 5
                rolledAt 0 = 31
                rolledAt 1 ! IndexOutOfBoundsException
                rolledAt -1 ! IndexOutOfBoundsException
                rolledAt 2147483647 ! IndexOutOfBoundsException
                rolledAt -2147483648 ! IndexOutOfBoundsException
                offer
                drop
                rolledAt 0 = 31
                begin 0
                rolledAt 0 ! IndexOutOfBoundsException
                """);
        run("40 rolledAt: Returns ten times the greater die plus the lesser one", """
                start b 0 false
                begin 0
                turns 13#0 61#0
                roll 2 2
                play 0
                rolledAt 0 = 31
                rolledAt 1 = 61
                rolledAt 2 = 22
                """);
        run("41 fairness: 0 without rolls", """
                fairness = 0
                start b 0 false
                begin 0
                fairness = 0
                """);
        run("41 fairness: two dice for a roll, also of dice alike; not yet played counts", """
                start b 0 false
                begin 0
                roll 1 1
                fairness = 120                  // 10 * 10, five times 2 * 2
                roll 2 2 ! IllegalStateException
                fairness = 120
                """);
        run("42 hitShare: Throws NoSuchElementException if there were none", """
                hitShare ! NoSuchElementException
                start b 0 false
                begin 0
                hitShare ! NoSuchElementException
                roll 6 1
                move 13 6
                hitShare ! NoSuchElementException
                play 0
                hitShare = 0.0
                """);
        run("42 hitShare: of all plays made, in all games, that hit a man: two at once are one play", """
                start h 0 false
                begin 0
                go 66 24/18 23/17 22/16 16/10
                go 44 23/19 19/15 15/11 11/7
                hitShare = 0.5
                offer
                drop
                start h 0 false
                begin 0
                turns 66#0
                hitShare = 0.33333334
                """);
        run("43 meanError: Throws NoSuchElementException if there were none", """
                meanError ! NoSuchElementException
                start b 0 false
                begin 0
                meanError ! NoSuchElementException
                roll 3 1
                move 8 3
                meanError ! NoSuchElementException
                play 2
                meanError = 24.0
                """);
        run("43 meanError: of all plays made, in all games", """
                start b 0 false
                begin 0
                turns 31#2
                offer
                drop
                start b 0 false
                begin 0
                turns 31#10
                meanError = 12.0
                offer
                drop
                begin 1
                turns 31#10
                meanError = 8.0
                """);
        run("44 isSound: without men and record", """
                isSound = true
                seat 3
                isSound = true
                start h 0 false
                isSound = true
                """);
        run("44 isSound: another variant was started since", """
                start b 0 false
                begin 1
                turns 61#0
                offer
                drop
                start h 0 false
                isSound = true
                begin 0
                isSound = true
                turns 66#0
                isSound = true
                """);
        run("44 isSound: a game that the side 1 begins, men on the bar and off", """
                start h 0 false
                begin 1
                turns 55#13 66#0
                isSound = true
                turns 66#0 66#0 66#0
                isSound = true
                rush 3
                state = -
                isSound = true
                """);
        run("44 isSound: accounts sum to 0", """
                seat 6
                start h 0 false
                begin 1
                offer
                beaver
                rush 3
                isSound = true
                begin 0
                rush 2
                isSound = true
                """);
    }

    public static void main(String[] args) {
        matches();
        rolls();
        cube();
        judging();
        players();
        records();
        CHECKS.end("EdgesOfCallsTest");
    }
}
