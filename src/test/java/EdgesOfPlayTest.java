/**
 * The terms of the document from "Track" to "Plays": each sentence that names a boundary has a run of its own,
 * which is headed by the words of this sentence.
 */
public final class EdgesOfPlayTest {
    private static final Checks CHECKS = new Checks();

    private static void run(String sentence, String text) {
        Script.run(CHECKS, sentence, text);
    }

    private static void track() {
        run("An object is used for at most 512 calls: a game so long is kept whole", """
                start b 0 false                 // call 1
                begin 0
                turns 53#4 54#10 61#0           // both have a man on the bar, and a 6 is blocked
                again 250 66#0
                played = 253
                playedAt 252 = 0
                rolledAt 252 = 66
                isSound = true                  // call 512
                """);
        run("The sides are 0 and 1", """
                start h 0 false
                begin 0
                turn = 0
                men 0 24 = 1
                men 1 24 = 1
                men 2 24 ! IllegalArgumentException
                men -1 24 ! IllegalArgumentException
                """);
        run("the point p of a side is the point 25 less p of the other one: 1 and 24", """
                start h 0 false
                begin 1
                go 66 24/18 18/12 12/6 22/16
                go 65 23/17 22/17
                stand 0 24:1 17:2
                stand 1 23:1 16:1 6:1
                roll 5 1
                move 6 5 = true                 // the point 1 is 24 of the other one
                stand 0 25:1 17:2
                stand 1 23:1 16:1 1:1
                move 16 1 = false
                finish
                roll 6 1
                move 25 1 = true                // and 24 is its 1
                stand 0 24:1 17:2
                stand 1 25:1 23:1 15:1
                """);
        run("the point p of a side is the point 25 less p of the other one: 12 and 13", """
                start b 0 false
                begin 0
                roll 2 1
                move 13 1 ! UnsupportedOperationException   // five of the other side stand on its 13
                move 13 2 = false
                """);
        run("A man of a side goes from greater points to lesser ones", """
                start b 0 false
                begin 1
                roll 6 1
                move 13 6
                men 1 7 = 1
                men 1 19 = 0
                move 8 1
                men 1 7 = 2
                men 0 18 = 0
                """);
        run("25 is the bar", """
                start h 0 false
                begin 0
                go 55 23/18 18/13 13/8 8/3      // hits on 3, the other's 22
                stand 1 25:1 24:1 23:1
                pips 1 = 72
                """);
        run("0 is off", """
                start h 0 false
                begin 0
                go 66 24/18 23/17 22/16 18/12
                go 64 22/16 16/12
                go 35 17/12 16/13
                go 33 25/22 24/21 23/20 22/19
                go 66 13/7 12/6 12/6 7/1
                go 66
                stand 0 6:2 1:1
                stand 1 25:1 21:1 20:1
                roll 6 1
                move 6 6 = false                // off, where nobody is hit
                stand 0 6:1 1:1 0:1
                stand 1 25:1 21:1 20:1
                pips 0 = 7
                """);
    }

    private static void variants() {
        run("'b': each side has 2 men on 24, 5 on 13, 3 on 8 and 5 on 6", """
                start b 0 false
                begin 0
                stand 0 24:2 13:5 8:3 6:5
                stand 1 24:2 13:5 8:3 6:5
                """);
        run("'n': 2 on 24, 2 on 23, 4 on 13, 3 on 8 and 4 on 6", """
                start n 0 false
                begin 0
                stand 0 24:2 23:2 13:4 8:3 6:4
                stand 1 24:2 23:2 13:4 8:3 6:4
                """);
        run("'h': 1 on each of 24, 23 and 22", """
                start h 0 false
                begin 0
                stand 0 24:1 23:1 22:1
                stand 1 24:1 23:1 22:1
                """);
    }

    private static void moves() {
        run("A man moves from a point to the one that is a die less", """
                start b 0 false
                begin 0
                roll 6 2
                move 24 6
                stand 0 24:1 18:1 13:5 8:3 6:5
                move 13 2
                stand 0 24:1 18:1 13:4 11:1 8:3 6:5
                """);
        run("as long as the side has men on the bar, just from there: two of them", """
                start h 0 false
                begin 0
                go 66 24/18 23/17 22/16 16/10
                go 44 23/19 19/15 15/11 11/7
                stand 0 25:2 17:1
                roll 6 5 = 1
                move 17 6 ! UnsupportedOperationException
                move 25 6 = false
                men 0 25 = 1
                move 17 5 ! UnsupportedOperationException   // one is there yet
                move 19 5 ! UnsupportedOperationException
                move 25 5 = false
                stand 0 20:1 19:1 17:1
                """);
        run("as long as the side has men on the bar: no longer", """
                start h 0 false
                begin 0
                go 66 24/18 23/17 22/16 18/12
                go 31 23/20 20/19
                go 66 17/11 16/10 11/5 10/4
                go 66 24/18 22/16 19/13 18/12
                stand 0 25:1 5:1 4:1
                roll 5 4 = 2
                moveFrom 0 0 = 25
                moveFrom 1 0 = 25
                move 5 4 ! UnsupportedOperationException
                move 25 5 = false
                move 5 4 = false
                stand 0 20:1 4:1 1:1
                """);
        run("It cannot go where the other side has 2 men", """
                start b 0 false
                begin 0
                men 1 24 = 2
                roll 5 4
                move 6 5 ! UnsupportedOperationException
                men 0 6 = 5
                men 1 24 = 2
                """);
        run("It cannot go where the other side has 3 men or more", """
                start b 0 false
                begin 0
                roll 5 4
                move 24 5 ! UnsupportedOperationException   // five on 19, its 6
                play 0
                men 0 20 = 1
                go 21 13/11 6/5
                men 1 8 = 3
                roll 3 1
                move 20 3 ! UnsupportedOperationException   // three on 17, its 8
                """);
        run("where it has one, this is hit, and goes on the bar", """
                start b 0 false
                begin 0
                turns 54#0
                go 62 24/18 13/11
                men 1 24 = 1
                men 1 25 = 0
                roll 5 1
                move 6 5 = true
                men 1 24 = 0
                men 1 25 = 1
                men 0 1 = 1
                """);
        run("where it has none, nobody is hit", """
                start b 0 false
                begin 0
                roll 6 1
                move 13 6 = false
                men 1 18 = 0
                men 1 25 = 0
                men 0 7 = 1
                """);
        run("from the bar, too, it cannot go where the other side has 2 men", """
                start b 0 false
                begin 0
                go 36 13/7 24/21
                go 55 8/3 8/3 6/1 6/1
                men 0 25 = 1
                roll 3 1 = 1
                moves 0 = 0
                move 25 3 ! UnsupportedOperationException   // two on its 3
                move 25 1 ! UnsupportedOperationException   // two on its 1
                """);
        run("from the bar, too, one is hit", """
                start b 0 false
                begin 0
                turns 53#4 54#10
                men 0 25 = 2
                men 1 1 = 1
                roll 6 1 = 1
                move 25 1 = true
                men 0 25 = 1
                men 1 25 = 1
                men 1 1 = 0
                """);
    }

    /** All men of the side 0 are at home but one, and those of the side 1 have passed them. */
    private static final String BUT_ONE_AT_HOME = """
                start h 0 false
                begin 0
                go 66 24/18 18/12 12/6 23/17
                go 66 24/18 23/17 22/16 18/12
                go 66 22/16 16/10 10/4 17/11
                go 21 17/15 12/11
                go 42 11/7 6/4
                go 21 16/14 15/14
                stand 0 7:1 4:2
                stand 1 14:2 11:1
                """;

    private static void movesOff() {
        run("To move off, all men of the side must be at home: one is on 7", BUT_ONE_AT_HOME + """
                roll 4 2
                move 4 4 ! UnsupportedOperationException
                move 7 2 = false
                move 4 4 = false                // now they are
                stand 0 5:1 4:1 0:1
                """);
        run("To move off, all men of the side must be at home: one is on the bar", """
                start h 0 false
                begin 0
                go 66 24/18 23/17 22/16 18/12
                go 31 23/20 20/19
                go 66 17/11 16/10 11/5 10/4
                go 66 24/18 22/16 19/13 18/12
                stand 0 25:1 5:1 4:1
                roll 5 4
                move 5 5 ! UnsupportedOperationException
                move 4 4 ! UnsupportedOperationException
                move 25 5
                move 4 4 ! UnsupportedOperationException    // it is on 20 now
                """);
        run("To move off, all men of the side must be at home: 6 is", BUT_ONE_AT_HOME + """
                go 21 7/6 4/2
                go 21 14/12 14/13
                stand 0 6:1 4:1 2:1
                roll 4 2
                move 4 4 = false
                move 2 2 = false
                stand 0 6:1 0:2
                """);
        run("and either the point is the die, or it is less: the last two from 1", """
                start h 0 false
                begin 0
                go 66 23/17 22/16 17/11 11/5
                go 66 23/17 22/16 17/11 16/10
                go 55 24/19 16/11 11/6 6/1
                go 66 25/19 19/13 13/7 7/1
                go 66 19/13 13/7 7/1 5/0
                go 66 11/5 10/4 5/0 4/0
                stand 0 1:2 0:1
                roll 6 1 = 1
                moves 0 = 2
                moveFrom 0 0 = 1
                moveTo 0 0 = 0
                moveFrom 0 1 = 1
                moveTo 0 1 = 0
                """);
        run("and either the point is the die: from 6, the greatest point of the home", """
                start h 0 false
                begin 0
                go 66 24/18 23/17 22/16 18/12
                go 64 22/16 16/12
                go 35 17/12 16/13
                go 33 25/22 24/21 23/20 22/19
                go 66 13/7 12/6 12/6 7/1
                go 66
                roll 6 1
                move 6 6 = false
                move 1 1 = false                // though another is on 6
                stand 0 6:1 0:2
                """);
        run("or it is less than the die, and no man is on a greater point", BUT_ONE_AT_HOME + """
                go 21 7/5 4/3
                go 21 14/12 14/13
                stand 0 5:1 4:1 3:1
                roll 6 4
                move 4 6 ! UnsupportedOperationException    // one is on 5
                move 3 6 ! UnsupportedOperationException
                move 3 4 ! UnsupportedOperationException
                move 5 6 = false
                move 3 4 ! UnsupportedOperationException    // one is on 4
                move 4 4 = false
                stand 0 3:1 0:2
                """);
        run("or it is less than the die: not if it is greater", BUT_ONE_AT_HOME + """
                go 21 7/5 4/3
                go 21 14/12 14/13
                roll 4 2
                move 5 4 = false
                stand 0 4:1 3:1 1:1
                move 1 2 ! UnsupportedOperationException    // less, but others are on greater points
                move 3 2 = false
                stand 0 4:1 1:2
                """);
        run("no man is on a greater point: one on the same point does not matter", BUT_ONE_AT_HOME + """
                go 31 7/4 4/3
                go 21 14/12 14/13
                stand 0 4:2 3:1
                roll 6 5
                move 3 6 ! UnsupportedOperationException
                move 4 6 = false
                move 3 5 ! UnsupportedOperationException
                move 4 5 = false
                stand 0 3:1 0:2
                """);
    }

    private static void plays() {
        run("Plays: a row of moves, one for each die", """
                start b 0 false
                begin 0
                roll 2 1
                moves 0 = 2
                move 24 2
                finish ! UnsupportedOperationException
                move 24 1
                move 13 2 ! UnsupportedOperationException
                move 13 1 ! UnsupportedOperationException
                finish
                """);
        run("Plays: or four for two alike", """
                start b 0 false
                begin 0
                roll 2 2
                moves 0 = 4
                move 24 2
                move 24 2
                move 13 2
                finish ! UnsupportedOperationException
                move 13 2
                move 13 2 ! UnsupportedOperationException
                finish
                """);
        run("in any order of two unlike dice: the lesser one first, by which alone both can be used", """
                start h 0 false
                begin 0
                go 66 24/18 23/17 22/16 16/10
                go 15 24/19 23/22
                go 44 18/14 14/10 10/6 10/6
                stand 0 17:1 6:2
                stand 1 25:1 22:2
                roll 6 1 = 2                    // 25 less 6 is blocked
                moveFrom 0 0 = 25
                moveTo 0 0 = 24
                moveFrom 0 1 = 24
                moveTo 0 1 = 18
                moveTo 1 0 = 24
                moveFrom 1 1 = 22
                moveTo 1 1 = 16
                move 25 6 ! UnsupportedOperationException
                """);
        run("in any order of two unlike dice: the greater one first, by which alone both can be used", """
                start h 0 false
                begin 0
                go 43 24/20 23/20
                go 12 24/22 23/22
                go 66 20/14 20/14 14/8 14/8
                stand 0 22:1 8:2
                stand 1 22:3
                roll 6 5 = 1                    // 22 less 5 is blocked
                moveFrom 0 0 = 22
                moveTo 0 0 = 16
                moveTo 0 1 = 11
                move 22 5 ! UnsupportedOperationException
                """);
        run("As many moves must be made as can be: none that leaves a die", """
                start h 0 false
                begin 0
                go 66 24/18 22/16 18/12 16/10
                go 45 24/19 23/19
                go 53 12/7 10/7
                stand 0 23:1 7:2
                stand 1 22:1 19:2
                roll 3 1 = 2
                moveFrom 0 0 = 19
                moveTo 0 0 = 16
                moveFrom 0 1 = 22
                moveFrom 1 0 = 19
                moveFrom 1 1 = 16
                move 22 3 = false               // no 1 can be made behind it
                move 22 1 ! UnsupportedOperationException
                move 19 1 ! UnsupportedOperationException
                finish ! UnsupportedOperationException
                """);
        run("As many moves must be made as can be: three of four", """
                start h 0 false
                begin 0
                go 66 24/18 23/17 22/16 18/12
                go 66 24/18 22/16 16/10 10/4
                go 34 17/13 16/13
                roll 6 6 = 1
                moves 0 = 3
                moveFrom 0 0 = 23
                moveFrom 0 1 = 17
                moveFrom 0 2 = 11
                moveTo 0 2 = 5
                moveFrom 0 3 ! IndexOutOfBoundsException
                move 23 6
                move 17 6
                finish ! UnsupportedOperationException
                move 11 6
                finish = 0
                """);
        run("As many moves must be made as can be: two of four", """
                start h 0 false
                begin 0
                go 12 24/22 23/22
                go 14 22/18 24/23
                go 55 22/17 22/17 17/12 17/12
                stand 0 22:1 12:2
                stand 1 23:2 18:1
                roll 5 5 = 1
                moves 0 = 2
                moveFrom 0 0 = 23
                moveFrom 0 1 = 23
                """);
        run("As many moves must be made as can be: one of four", """
                start h 0 false
                begin 0
                go 56 24/18 23/18
                go 46 24/18 22/18
                go 66 22/16 18/12 18/12 16/10
                stand 1 23:1 18:2
                roll 5 5 = 1
                moves 0 = 1
                moveFrom 0 0 = 23
                moveTo 0 0 = 18
                """);
        run("As many moves must be made as can be: fewer, as all men are off", """
                start h 0 false
                begin 0
                go 66 24/18 23/17 22/16 17/11
                go 66 24/18 23/17 22/16 17/11
                go 66 18/12 16/10 12/6 11/5
                go 66 18/12 16/10 12/6 11/5
                go 55 10/5 6/1 5/0 5/0
                go 55 10/5 6/1 5/0 5/0
                stand 0 1:1 0:2
                roll 3 3 = 1
                moves 0 = 1
                moveFrom 0 0 = 1
                moveTo 0 0 = 0
                play 0 = 0
                state = -
                """);
        run("if just one of two unlike dice can be used, but each of both by itself, the greater one must be", """
                start h 0 false
                begin 0
                go 66 24/18 23/17 17/11 11/5
                go 66 24/18 23/17 22/16 17/11
                go 66 22/16 18/12 16/10 10/4
                go 25 18/13 13/11
                stand 0 25:1 5:1 4:1
                stand 1 16:1 11:2
                roll 5 6 = 1
                moves 0 = 1
                moveFrom 0 0 = 25
                moveTo 0 0 = 19
                move 25 5 = false               // by itself it can be used
                finish ! UnsupportedOperationException
                undo = 1
                move 25 6 = false
                finish = 0
                men 0 19 = 1
                """);
        run("if just one of two unlike dice can be used: the lesser one, if not each of both by itself", """
                start h 0 false
                begin 0
                go 35 24/19 22/19
                go 46 24/18 22/18
                go 66 23/17 19/13 17/11 11/5
                go 66 18/12 18/12 12/6 12/6
                stand 0 25:2 5:1
                men 1 6 = 2
                roll 6 1 = 1
                moves 0 = 1
                moveFrom 0 0 = 25
                moveTo 0 0 = 24
                """);
        run("if just one of two unlike dice can be used: the greater one, if not each of both by itself", """
                start h 0 false
                begin 0
                go 66 23/17 22/16 16/10 10/4
                go 66 24/18 23/17 22/16 17/11
                go 55 24/19 19/14 14/9 9/4
                stand 0 17:1 4:2
                stand 1 25:2 18:1
                roll 5 4 = 1
                moves 0 = 1
                moveFrom 0 0 = 25
                moveTo 0 0 = 20
                move 25 4 ! UnsupportedOperationException
                """);
        run("if just one of two unlike dice can be used: by both the last man goes off", """
                start h 0 false
                begin 0
                go 66 24/18 23/17 22/16 17/11
                go 66 24/18 23/17 22/16 17/11
                go 66 18/12 16/10 12/6 11/5
                go 66 18/12 16/10 12/6 11/5
                go 55 10/5 6/1 5/0 5/0
                go 55 10/5 6/1 5/0 5/0
                roll 2 3 = 1
                moves 0 = 1
                moveTo 0 0 = 0
                """);
        run("of several rows that lead to one position, the first one counts", """
                start h 3 false
                begin 0
                roll 3 1 = 7                    // of 18 rows, nine of which begin by 3, and two of these lead where others do
                moveFrom 2 0 = 24
                moveTo 2 0 = 21
                moveFrom 2 1 = 21
                move 23 3
                move 24 1
                finish = 2
                """);
        run("and that lead to unlike positions: the same men by the same moves, but one row hits on its way", """
                start h 0 false
                begin 0
                go 66 24/18 23/17 22/16 18/12
                go 66 24/18 23/17 22/16 18/12
                stand 0 17:1 16:1 12:1
                stand 1 17:1 16:1 12:1          // for the side 0 on 8, 9 and 13
                roll 3 1 = 10
                moveFrom 3 0 = 16
                moveTo 3 0 = 13
                moveTo 3 1 = 12
                moveFrom 8 0 = 16
                moveTo 8 0 = 15
                moveTo 8 1 = 12
                moveTo 7 0 = 9                  // two are hit
                moveTo 7 1 = 8
                moveTo 9 0 = 11                 // one
                moveTo 9 1 = 8
                move 16 1 = false
                move 15 3 = false
                finish = 8
                stand 1 17:1 16:1 12:1
                """);
        run("moves of the greater die ahead of those of the lesser one", """
                start b 3 false
                begin 0
                roll 1 5 = 8
                moveFrom 0 0 = 13
                moveTo 0 0 = 8
                moveFrom 0 1 = 24
                moveFrom 2 0 = 13
                moveFrom 2 1 = 6
                moveFrom 3 0 = 8
                moveFrom 3 1 = 24
                moveFrom 6 0 = 8
                moveFrom 6 1 = 3
                moveFrom 7 0 = 24               // by 1, for 24 less 5 is blocked
                moveTo 7 0 = 23
                moveFrom 7 1 = 23
                moveTo 7 1 = 18
                """);
        run("Rows are in the order of their first moves, then of their second ones, and so on: four of them", """
                start b 3 false
                begin 0
                roll 5 5 = 4
                moveFrom 0 0 = 13
                moveFrom 0 1 = 13
                moveFrom 0 2 = 13
                moveFrom 0 3 = 13
                moveFrom 1 2 = 13
                moveFrom 1 3 = 8
                moveFrom 2 1 = 13
                moveFrom 2 2 = 8
                moveFrom 2 3 = 8
                moveFrom 3 0 = 13
                moveFrom 3 1 = 8
                moveFrom 3 2 = 8
                moveFrom 3 3 = 8
                """);
        run("of the same die those from greater points ahead", """
                start h 3 false
                begin 0
                roll 1 3 = 7
                moveFrom 0 0 = 24
                moveTo 0 0 = 21
                moveFrom 1 0 = 24
                moveFrom 2 0 = 24
                moveFrom 3 0 = 23
                moveFrom 4 0 = 23
                moveFrom 5 0 = 22
                moveFrom 6 0 = 22
                moveFrom 0 1 = 23
                moveFrom 1 1 = 22
                moveFrom 2 1 = 21
                moveFrom 3 1 = 22
                moveFrom 4 1 = 20
                moveFrom 5 1 = 24
                moveFrom 6 1 = 19
                """);
        run("A roll by which no move can be made has one play, without moves: unlike dice", """
                start b 0 false
                begin 0
                go 36 13/7 24/21
                go 55 8/3 8/3 6/1 6/1
                roll 3 1 = 1
                plays = 1
                moves 0 = 0
                moves 1 ! IndexOutOfBoundsException
                moveFrom 0 0 ! IndexOutOfBoundsException
                best = 0
                error 0 = 0
                undo = 0
                play 0 = 0
                turn = 1
                played = 3
                playedAt 2 = 0
                rolledAt 2 = 31
                """);
        run("A roll by which no move can be made has one play, without moves: two alike", """
                start h 0 false
                begin 0
                go 56 24/18 23/18
                go 32 22/19 23/21
                go 66 18/12 18/12 12/6 12/6
                stand 0 22:1 6:2
                men 1 25 = 1
                roll 6 6 = 1
                moves 0 = 0
                move 25 6 ! UnsupportedOperationException
                finish = 0
                turn = 0
                """);
    }

    public static void main(String[] args) {
        track();
        variants();
        moves();
        movesOff();
        plays();
        CHECKS.end("EdgesOfPlayTest");
    }
}
