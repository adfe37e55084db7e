/**
 * The terms of the document from "Games" to "Exceptions": each sentence that names a boundary has a run of its own,
 * which is headed by the words of this sentence.
 */
public final class EdgesOfGamesTest {
    private static final Checks CHECKS = new Checks();

    private static void run(String sentence, String text) {
        Script.run(CHECKS, sentence, text);
    }

    private static void games() {
        run("A match is to a length, or for money, with the length 0", """
                start h 0 false
                isOver = false
                begin 0
                rush 3
                isOver = false
                begin 0
                offer
                beaver                          // for money alone
                start h 1 false ! IllegalStateException
                rush 3
                isOver = false
                start h 1 false
                isOver = false
                begin 0
                offer
                beaver ! UnsupportedOperationException
                drop
                isOver = true
                """);
        run("A game begins with a side, which is on roll", """
                start b 0 false
                begin 1
                state = d
                turn = 1
                offer
                drop
                begin 0
                turn = 0
                """);
        run("One who is on roll tells a roll, or doubles ahead of that", """
                start b 0 false
                begin 0
                offer = 2
                take
                roll 6 1
                offer ! IllegalStateException
                play 0
                offer = 4
                """);
        run("After a play the other side is on roll", """
                start b 0 false
                begin 1
                turns 61#0
                turn = 0
                state = d
                turns 61#0
                turn = 1
                """);
        run("A side all of whose men are off has won: not with one left", """
                start h 0 false
                begin 0
                go 66 24/18 23/17 22/16 17/11
                go 66 24/18 23/17 22/16 17/11
                go 66 18/12 16/10 12/6 11/5
                go 66 18/12 16/10 12/6 11/5
                go 55 10/5 6/1 5/0 5/0
                state = d
                won = 0
                go 55 10/5 6/1 5/0 5/0
                state = d
                roll 2 1
                move 1 2
                state = r                       // a single move is not yet a play
                won = 0
                finish
                state = -
                won = 1
                stand 0 0:3
                stand 1 1:1 0:2
                score 0 = 1
                score 1 = 0
                """);
        run("a single game: the other side has just one man off", """
                start h 0 false
                begin 0
                go 66 24/18 23/17 22/16 18/12
                go 66 24/18 23/17 18/12 12/6
                go 66 17/11 16/10 12/6 11/5
                go 66 22/16 17/11 16/10 11/5
                go 46 10/4 4/0
                go 66 10/4 6/0 5/0 4/0
                stand 0 6:1 5:1 0:1
                won = 1
                score 1 = 1
                """);
        run("a double one if the other side has no man off: and none farther than on 18", """
                start h 0 false
                begin 0
                go 66 23/17 22/16 16/10 10/4
                go 24 22/18 18/16
                go 66 24/18 18/12 17/11 12/6
                go 66 24/18 23/17 17/11 16/10
                go 66 11/5 6/0 5/0 4/0
                stand 1 18:1 11:1 10:1
                won = 2
                score 0 = 2
                """);
        run("a triple one if this one has a man on one of its points 19 to 24: on 19", """
                start h 0 false
                begin 0
                go 66 24/18 23/17 22/16 18/12
                go 26 24/18 22/20
                go 66 17/11 16/10 12/6 10/4
                go 31 23/20 20/19
                go 66 25/19 19/13 13/7 11/5
                go 66 25/19 25/19 19/13 19/13
                go 66 7/1 5/0 4/0 1/0
                stand 1 19:1 13:2
                won = 3
                score 0 = 3
                """);
        run("a triple one if this one has a man on one of its points 19 to 24: on 24", """
                start h 0 false
                begin 0
                go 66 24/18 23/17 22/16 18/12
                go 65 23/17 17/12
                go 66 17/11 16/10 12/6 11/5
                go 66 22/16 16/10 12/6 10/4
                go 66 10/4 6/0 5/0 4/0
                stand 1 24:1 6:1 4:1
                won = 3
                score 0 = 3
                """);
        run("a triple one if this one has a man on the bar, too", """
                start h 0 false
                begin 0
                go 66 24/18 23/17 22/16 18/12
                go 66 24/18 22/16 16/10 10/4
                go 66 17/11 16/10 12/6 11/5
                go 12 23/21 18/17
                go 66 10/4 6/0 5/0 4/0
                stand 1 25:1 17:1 4:1
                won = 3
                score 0 = 3
                """);
        run("a triple one if this one has a man on the bar, too: a single one if it has a man off", """
                start h 0 false
                begin 0
                go 46 24/18 22/18
                go 66 24/18 23/17 18/12 12/6
                go 66 23/17 18/12 18/12 12/6
                go 25 17/12 22/20
                go 66 17/11 12/6 11/5 6/0
                go 66 25/19 19/13 13/7 12/6
                go 66
                go 66 7/1 6/0 6/0 1/0
                men 0 25 = 1
                men 0 0 = 1
                won = 1
                score 1 = 1
                """);
        run("a triple one by a man on 19 to 24: a single one if the other side has a man off", """
                start h 0 false
                begin 0
                go 66 24/18 22/16 18/12 12/6
                go 66 24/18 23/17 17/11 11/5
                go 66 23/17 17/11 16/10 11/5
                go 16 18/12 22/21
                go 46 10/4 4/0
                go 66 25/19 19/13 13/7 12/6
                go 11 25/24 24/23 23/22 22/21
                go 66 7/1 6/0 5/0 1/0
                men 0 21 = 1
                men 0 0 = 1
                won = 1
                """);
        for (int kind = 1; kind <= 3; kind++) {
            run("The winner gets the points of the cube times 1, 2 or 3: " + kind, """
                start h 0 false
                begin 1
                offer
                beaver
                rush KIND
                won = KIND
                score 1 = POINTS
                score 0 = 0
                """.replace("KIND", "" + kind).replace("POINTS", "" + 4 * kind));
        }
    }

    private static void jacoby() {
        for (int kind = 2; kind <= 3; kind++) {
            run("for money by Jacoby's rule just 1, if the cube was never turned: kind " + kind, """
                start h 0 true
                begin 1
                rush KIND
                won = 1
                score 1 = 1
                """.replace("KIND", "" + kind));
            run("just 1, if the cube was never turned: it was, for the kind " + kind, """
                start h 0 true
                begin 1
                offer
                take
                rush KIND
                won = KIND
                score 1 = POINTS
                """.replace("KIND", "" + kind).replace("POINTS", "" + 2 * kind));
            run("for money by Jacoby's rule: not in a match, kind " + kind, """
                start h 9 true
                begin 1
                rush KIND
                won = KIND
                score 1 = KIND
                """.replace("KIND", "" + kind));
            run("by Jacoby's rule: not for money without it, kind " + kind, """
                start h 0 false
                begin 1
                rush KIND
                won = KIND
                score 1 = KIND
                """.replace("KIND", "" + kind));
        }
        run("if the cube was never turned: that of the game before does not matter", """
                start h 0 true
                begin 0
                offer
                take
                rush 2
                won = 2
                begin 0
                rush 2
                won = 1
                score 0 = 5
                """);
    }

    private static void matches() {
        run("A match is over when a side has as many points as its length: just so many", """
                start h 3 false
                begin 1
                rush 3
                score 1 = 3
                isOver = true
                begin 0 ! IllegalStateException
                """);
        run("A match is over when a side has as many points as its length: not one less", """
                start h 3 false
                begin 1
                rush 2
                isOver = false
                begin 0
                isOver = false
                """);
        run("A match is over when a side has as many points as its length: both together do not", """
                start b 3 false
                begin 0
                offer
                drop
                begin 1
                offer
                take
                turns 61#0
                offer
                drop
                score 0 = 3
                isOver = true
                start b 4 false
                begin 0
                offer
                drop
                begin 1
                offer
                drop
                begin 0
                offer
                drop
                begin 1
                turn = 1
                score 0 = 2
                score 1 = 1
                isOver = false
                """);
        run("what is above counts", """
                start h 2 false
                begin 0
                offer
                take
                rush 3
                score 0 = 6
                isOver = true
                """);
        run("by which a side first needs just one point: not in a match to 1", """
                start h 1 false
                begin 0 = false
                offer = 2
                drop
                isOver = true
                """);
        run("by which a side first needs just one point: two points are not just one", """
                start h 3 false
                begin 0 = false
                rush 1
                begin 0 = false
                offer = 2
                """);
        run("by which a side first needs just one point: at once in a match to 2", """
                start h 2 false
                begin 0 = false
                offer
                drop
                begin 0 = true
                offer ! UnsupportedOperationException
                turns 66#0
                offer ! UnsupportedOperationException       // nor can the other side
                """);
        run("the first game behind one: not the second", """
                start h 2 false
                begin 0
                offer
                drop
                begin 1 = true
                rush 1
                score 0 = 1
                score 1 = 1
                begin 1 = false
                offer = 2
                """);
        run("the first game behind one by which a side first needs just one point: not for the other side again", """
                start h 3 false
                begin 0
                rush 2
                begin 1 = true
                rush 1
                begin 1 = false
                offer
                drop
                score 1 = 2
                begin 1 = false
                offer = 2
                """);
        run("by which a side needs just one point: one that has won by more has no next game", """
                start h 3 false
                begin 0
                rush 3
                isOver = true
                start h 3 false
                begin 0 = false
                offer = 2
                """);
        run("in a match, the first game behind one: none for money", """
                start h 0 false
                begin 0 = false
                offer
                drop
                begin 0 = false
                offer = 2
                """);
    }

    private static void cube() {
        run("It is 1 at first", """
                cube = 1
                start b 0 false
                cube = 1
                begin 0
                cube = 1
                offer
                take
                turns 61#0
                offer
                drop
                cube = 2
                begin 0
                cube = 1
                """);
        run("up to 64: One who is on roll can double if the cube is less than 64", """
                start b 25 false
                begin 0
                offer
                take
                turns 61#0
                offer
                take
                turns 61#0
                offer
                take
                turns 61#0
                offer
                take
                turns 61#0
                offer = 32
                take = 32
                turns 61#0
                offer = 64
                take = 64
                owner = 0
                turn = 1
                offer ! UnsupportedOperationException
                turns 61#0
                turn = 0
                offer ! UnsupportedOperationException       // its own, and no longer less
                cube = 64
                """);
        run("and belongs to nobody, or a side", """
                start b 0 false
                owner = -1
                begin 0
                owner = -1
                offer
                owner = -1
                take
                owner = 1
                turns 61#0
                offer
                take
                owner = 0
                turns 61#0
                offer
                drop
                owner = 0
                begin 1
                owner = -1
                """);
        run("One who is on roll can double if it belongs to nobody or to this side", """
                start b 0 false
                begin 0
                turns 61#0
                offer = 2                       // nobody's
                take
                owner = 0
                offer ! UnsupportedOperationException
                turns 61#0
                offer = 4                       // its own
                """);
        run("The other one takes: the cube is doubled, and belongs to this one", """
                start b 0 false
                begin 1
                offer = 2
                cube = 1
                turn = 0
                take = 2
                cube = 2
                owner = 0
                turn = 1
                state = d
                """);
        run("or drops: the one who doubled wins the points of the cube as it was, a single game", """
                start h 0 false
                begin 1
                offer
                take
                go 66 24/18 23/17 22/16 18/12
                offer = 4
                drop = 2
                won = 1                         // though no man is off
                score 0 = 2
                score 1 = 0
                cube = 2
                state = -
                """);
        run("or, for money, beavers: the cube is twice doubled, and belongs to the one who beavers", """
                start b 0 false
                begin 1
                offer = 2
                beaver = 4
                cube = 4
                owner = 0
                """);
        run("Then the one who doubled is on roll", """
                start b 0 false
                begin 1
                offer
                beaver
                state = d
                turn = 1
                turns 61#0
                turn = 0
                offer
                take
                state = d
                turn = 0
                """);
        run("and if that is at most 64: just 64", """
                start b 0 false
                begin 0
                offer
                beaver
                turns 61#0
                offer
                beaver
                turns 61#0
                offer = 32
                beaver = 64
                cube = 64
                """);
        run("and if that is at most 64: not 128", """
                start b 0 false
                begin 0
                offer
                take
                turns 61#0
                offer
                beaver
                turns 61#0
                offer
                beaver
                turns 61#0
                cube = 32
                offer = 64
                beaver ! UnsupportedOperationException
                cube = 32
                state = t
                take = 64
                """);
    }

    private static void judging() {
        run("the pips of the other side less its own, a man's pips being its point: 25 on the bar", """
                start h 0 false
                begin 0
                go 55 23/18 18/13 13/8 8/3
                stand 0 24:1 22:1 3:1
                stand 1 25:1 24:1 23:1
                pips 0 = 49
                pips 1 = 72
                worth 1 = -31                   // 23 pips, two men alone
                """);
        run("plus 6 for each of its points 1 to 24 with 2 men or more: 2, 3 and 5, and the point 24", """
                start b 0 false
                begin 0
                worth 0 = 24
                """);
        run("plus 6 for each of its points 1 to 24 with 2 men or more: the point 1, not one man, nor two on the bar", """
                start b 0 false
                begin 0
                go 36 13/7 24/21
                go 55 8/3 8/3 6/1 6/1
                stand 0 25:1 21:1 13:4 8:3 7:1 6:5
                stand 1 24:2 13:5 8:1 6:3 3:2 1:2
                worth 1 = 46                    // 159 - 147 pips, five points, one man alone, one on the bar
                worth 0 = -2                    // -12 pips, three points, 21 and 7 alone before others
                """);
        run("of its points 1 to 24 with 2 men or more: not two on the bar", """
                start h 0 false
                begin 0
                go 66 24/18 23/17 22/16 16/10
                go 44 23/19 19/15 15/11 11/7
                stand 0 25:2 17:1
                stand 1 24:1 22:1 7:1
                worth 0 = -18                   // 53 - 67 pips, one man alone
                """);
        run("of its points 1 to 24 with 2 men or more: not two that are off", """
                start h 0 false
                begin 0
                go 66 24/18 23/17 22/16 18/12
                go 66 24/18 23/17 18/12 12/6
                go 44 17/13 16/12 13/9 9/5
                go 33 22/19 19/16 17/14 14/11
                go 66 12/6 12/6 6/0 6/0
                go 66 16/10 11/5 10/4 6/0
                stand 0 5:1 0:2
                stand 1 5:1 4:1 0:1
                worth 0 = 24                    // 9 - 5 pips, two men off
                worth 1 = 6                     // and one
                """);
        String passing = """
                start h 0 false
                begin 0
                go 66 24/18 23/17 22/16 18/12
                go 66 24/18 23/17 22/16 18/12
                go 66 17/11 16/10 12/6 11/5
                stand 0 10:1 6:1 5:1
                stand 1 17:1 16:1 12:1          // for the side 0 on 8, 9 and 13
                """;
        run("less 4 for one man if the other side has a man on a point that is less: by one is enough", passing + """
                worth 0 = 20                    // 24 pips, and 10 alone before 9
                """);
        run("less 4 for one man if the other side has a man on a point that is less: not greater ones", passing + """
                worth 1 = -32                   // -24 pips, 17 and 16 alone, but not 12
                """);
        run("less 4 for each of them with one man if the other side has a man on its bar: the point 1, too", """
                start h 0 false
                begin 1
                go 66 24/18 18/12 12/6 22/16
                go 65 23/17 22/17
                go 51 6/1 16/15
                stand 0 25:1 17:2
                stand 1 23:1 15:1 1:1
                worth 1 = 16                    // 59 - 39 pips, three men alone, 8 for the bar
                worth 0 = -14                   // two on 17; the one on the bar is none of the points
                """);
        run("less 4 for each of them with one man: not with two", """
                start h 0 false
                begin 0
                go 54 24/19 23/19
                worth 0 = 11                    // 69 - 60 pips, 19, and 22 alone before 1, 2 and 3
                """);
        run("plus 8 for each man of the other side on its bar: two", """
                start h 0 false
                begin 0
                go 66 24/18 23/17 22/16 16/10
                go 44 23/19 19/15 15/11 11/7
                worth 1 = 18                    // 67 - 53 pips, three men alone, twice 8
                """);
        run("plus 10 for each own man off: not for those of the other side", """
                start h 0 false
                begin 0
                go 66 24/18 23/17 22/16 18/12
                go 66 24/18 23/17 18/12 12/6
                go 66 17/11 16/10 12/6 11/5
                go 66 22/16 17/11 16/10 11/5
                go 46 10/4 4/0
                stand 0 6:1 5:1 0:1
                stand 1 10:1 6:1 5:1
                worth 0 = 20
                worth 1 = -10
                """);
        run("The error of a play is the greatest worth less that behind this one: 0 for the best", """
                start b 5 false
                begin 0
                roll 3 1
                error 10 = 0
                error 2 = 24
                """);
        run("A play two rolls deep: over all rolls, times 2 for unlike dice, taken off 0; also behind a play by which "
                + "the game would end, as if it went on", """
                start h 0 false
                begin 0
                go 66 24/18 23/17 22/16 17/11
                go 66 24/18 23/17 22/16 17/11
                go 66 18/12 16/10 12/6 11/5
                go 66 18/12 16/10 12/6 11/5
                go 55 10/5 6/1 5/0 5/0
                go 55 10/5 6/1 5/0 5/0
                roll 2 1 = 1
                deep 0 = -1080                  // 36 times three men off
                state = r
                play 0
                state = -
                """);
        run("A play two rolls deep is worth the sum of the greatest worth for the other side: a roll without moves, too", """
                start b 0 false
                begin 0
                turns 53#4 54#10 61#0
                stand 0 25:1 24:1 13:5 8:2 6:5 3:1
                stand 1 25:1 24:2 13:5 8:2 6:4 4:1
                roll 6 6 = 1
                deep 0 = SUM
                """.replace("SUM", "" + deepOfBothOnBar()));
    }

    /** By the oracle, for 21 rolls are too many to be told here. */
    private static long deepOfBothOnBar() {
        int[][] men = new int[2][26];
        int[][] due = {{25, 1, 24, 1, 13, 5, 8, 2, 6, 5, 3, 1}, {25, 1, 24, 2, 13, 5, 8, 2, 6, 4, 4, 1}};
        for (int side = 0; side < 2; side++) {
            for (int i = 0; i < due[side].length; i += 2) {
                men[side][due[side][i]] = due[side][i + 1];
            }
        }
        return Oracle.deep(Oracle.plays(men, 1, 6, 6).get(0), 1);
    }

    private static void endings() {
        run("When each side has at most 2 left: two and two", """
                start h 0 false
                begin 0
                go 56 24/18 23/18
                go 65 24/18 22/17
                go 66 22/16 18/12 16/10 10/4
                go 66 23/17 18/12 17/11 17/11
                go 66 18/12 12/6 12/6 6/0
                go 66 12/6 11/5 11/5 6/0
                stand 0 6:1 4:1 0:1
                stand 1 5:2 0:1
                chance = TWO
                """.replace("TWO", "" + chance(6, 4, 5, 5)));
        run("When all men of both sides are at home: two on 6, the greatest point", """
                start h 0 false
                begin 0
                go 66 24/18 23/17 18/12 17/11
                go 65 24/18 23/18
                go 66 22/16 16/10 12/6 11/5
                go 66 22/16 18/12 18/12 16/10
                go 45 10/6 5/0
                go 66 12/6 12/6 10/4 6/0
                stand 0 6:2 0:1
                stand 1 6:1 4:1 0:1
                chance = TWO
                """.replace("TWO", "" + chance(6, 6, 6, 4)));
        run("When all men of both sides are at home: two of the other side on 6", """
                start h 0 false
                begin 0
                go 66 24/18 22/16 18/12 12/6
                go 66 24/18 23/17 22/16 18/12
                go 66 23/17 17/11 16/10 11/5
                go 54 17/12 16/12
                go 64 10/4 4/0
                go 66 12/6 12/6 12/6 6/0
                stand 0 6:1 5:1 0:1
                stand 1 6:2 0:1
                chance = TWO
                """.replace("TWO", "" + chance(6, 5, 6, 6)));
        run("When all men of both sides are at home: one on 1, the least point", """
                start h 0 false
                begin 0
                go 66 24/18 23/17 22/16 18/12
                go 44 24/20 20/16 16/12 12/8
                go 66 25/19 19/13 13/7 7/1
                go 66 23/17 17/11 11/5 8/2
                go 66 16/10 12/6 10/4 6/0
                go 66 22/16 16/10 10/4 5/0
                stand 0 4:1 1:1 0:1
                stand 1 4:1 2:1 0:1
                chance = 0.8757716049382717     // 29 of 36 rolls, and 13 of 36 behind the other seven
                """);
        run("the chance to win of the one who is on roll: the side 1", """
                start h 0 false
                begin 0
                go 66 23/17 22/16 16/10 10/4
                go 66 24/18 23/17 22/16 16/10
                go 66 24/18 18/12 17/11 11/5
                go 66 18/12 17/11 12/6 11/5
                go 42 12/8 4/2
                go 45 10/6 5/0
                go 24 8/4 2/0
                turn = 1
                stand 0 5:1 4:1 0:1
                stand 1 6:2 0:1
                chance = TWO
                """.replace("TWO", "" + chance(6, 6, 5, 4)));
        run("When each side has at most 2 left: three of the one on roll are too many", """
                start h 0 false
                begin 0
                go 66 24/18 23/17 22/16 18/12
                go 66 24/18 23/17 18/12 12/6
                go 51 17/12 16/15
                go 54 17/12 22/18
                go 66 15/9 12/6 12/6 9/3
                go 66 18/12 12/6 12/6 6/0
                stand 0 6:2 3:1
                stand 1 6:2 0:1
                chance ! UnsupportedOperationException
                """);
        run("When each side has at most 2 left: three of the other one are too many", """
                start h 0 false
                begin 0
                go 66 24/18 23/17 22/16 18/12
                go 15 22/17 17/16
                go 66 17/11 16/10 12/6 11/5
                go 66 24/18 23/17 16/10 10/4
                go 46 10/4 4/0
                go 66 18/12 17/11 12/6 11/5
                stand 0 6:1 5:1 0:1
                stand 1 6:1 5:1 4:1
                chance ! UnsupportedOperationException
                """);
        run("and at least one: one and one", """
                start h 0 false
                begin 0
                go 66 24/18 23/17 22/16 17/11
                go 66 24/18 23/17 22/16 17/11
                go 66 18/12 16/10 12/6 11/5
                go 66 18/12 16/10 12/6 11/5
                go 55 10/5 6/1 5/0 5/0
                go 55 10/5 6/1 5/0 5/0
                stand 0 1:1 0:2
                stand 1 1:1 0:2
                chance = 1.0
                """);
        run("and at least one: behind the last the game is over, and nobody is on roll", """
                start h 0 false
                begin 0
                go 66 24/18 23/17 22/16 17/11
                go 66 24/18 23/17 22/16 17/11
                go 66 18/12 16/10 12/6 11/5
                go 66 18/12 16/10 12/6 11/5
                go 55 10/5 6/1 5/0 5/0
                go 55 10/5 6/1 5/0 5/0
                go 21 1/0
                chance ! IllegalStateException
                """);
        run("When all men of both sides are at home or off: one of the side on roll is on the bar", """
                start h 0 false
                begin 0
                go 46 24/18 22/18
                go 66 24/18 22/16 18/12 16/10
                go 66 23/17 18/12 18/12 17/11
                go 64 12/6 23/19
                go 66 12/6 12/6 11/5 6/0
                go 65 25/20 20/14
                go 42 25/21 6/4
                go 66 14/8 10/4 8/2 6/0
                men 0 25 = 1
                men 0 0 = 1
                men 1 0 = 1
                chance ! UnsupportedOperationException
                """);
        run("When all men of both sides are at home or off: one of the other side is on 7", """
                start h 0 false
                begin 0
                go 66 24/18 23/17 22/16 18/12
                go 32 24/21 23/21
                go 66 17/11 16/10 12/6 11/5
                go 64 21/15 22/18
                go 11 25/24 24/23 6/5 5/4
                go 66 25/19 19/13 13/7 7/1
                go 41 5/1 4/3
                go 55 18/13 15/10 13/8 10/5
                go 66 23/17 17/11 11/5 5/0
                go 31 25/24 24/21
                go 46 25/19 19/15
                go 66 21/15 15/9 9/3 5/0
                go 22 15/13 13/11 11/9 9/7
                men 0 7 = 1
                men 0 0 = 1
                men 1 0 = 1
                chance ! UnsupportedOperationException
                """);
        run("the chance behind a play is 1.0 if the side is off then, otherwise 1.0 less that of the other side", """
                start h 0 false
                begin 0
                go 66 24/18 23/17 22/16 18/12
                go 66 24/18 23/17 18/12 12/6
                go 44 17/13 16/12 13/9 9/5
                go 33 22/19 19/16 17/14 14/11
                go 66 12/6 12/6 6/0 6/0
                go 66 16/10 11/5 10/4 6/0
                stand 0 5:1 0:2
                stand 1 5:1 4:1 0:1
                chance = 0.9614197530864198     // 31 of 36 rolls, and 26 of 36 behind the other five
                """);
    }

    /** By the oracle: the chance of the one on roll, with men on a and b, against men on c and d. */
    private static double chance(int a, int b, int c, int d) {
        int[][] men = new int[2][26];
        men[0][a]++;
        men[0][b]++;
        men[1][c]++;
        men[1][d]++;
        return Oracle.chance(men, 0);
    }

    private static void equities() {
        run("1000000 if a is 0 or less: 0, and by 2 less than 1", """
                equity 0 1 = 1000000
                equity 0 25 = 1000000
                setRate 100
                equity 1 1 = 500000             // half of that with -1, and half of that with -1 for the other one
                equity 1 2 = 500000
                """);
        run("0 if b is", """
                equity 1 0 = 0
                equity 25 0 = 0
                setRate 100
                equity 2 1 = 500000
                equity 3 1 = 250000
                """);
        run("by a rate of double games in hundredths, 25 at first", """
                equity 2 1 = 312500
                setRate 25 = 25
                equity 2 1 = 312500
                setRate 0
                equity 2 1 = 250000
                setRate 100
                equity 2 1 = 500000
                """);
        run("divided by 200, cut", """
                equity 3 1 = 179687             // and a half
                equity 1 3 = 820312             // and a half: both are cut, so that they make less than a million
                """);
    }

    private static void table() {
        run("3 to 6 players can be seated: 3", """
                seat 2 ! IllegalArgumentException
                box ! NoSuchElementException
                seat 3
                box = 0
                captain = 1
                inLine 0 = 2
                inLine 1 ! NoSuchElementException
                account 2 = 0
                account 3 ! IndexOutOfBoundsException
                """);
        run("3 to 6 players can be seated: 6", """
                seat 7 ! IllegalArgumentException
                captain ! NoSuchElementException
                seat 6
                inLine 3 = 5
                inLine 4 ! NoSuchElementException
                account 5 = 0
                account 6 ! IndexOutOfBoundsException
                """);
        run("for money: not while a match to a length was started", """
                start b 1 false
                seat 3 ! IllegalStateException
                start b 0 false
                seat 3 = 0
                start b 1 false ! IllegalStateException
                """);
        run("the player 0 is the box, 1 the captain, the others wait in a line in this order", """
                seat 5
                box = 0
                captain = 1
                inLine 0 = 2
                inLine 1 = 3
                inLine 2 = 4
                """);
        run("The box plays the side 0, the captain the side 1 for all others", """
                seat 3
                start b 0 false
                begin 0
                offer
                drop
                account 0 = 2
                account 1 = -1
                account 2 = -1
                """);
        run("As a game ends, each of the others gets from the box the points, or gives them: of cube and kind", """
                seat 6
                start h 0 false
                begin 1
                offer
                take
                rush 3
                account 0 = -30
                account 1 = 6
                account 5 = 6
                isSound = true
                begin 0
                account 0 = -30
                """);
        run("If the box has lost, the captain is the box, and who was the box goes to its end: all round, of three", """
                seat 3
                start b 0 false
                begin 1
                offer
                drop
                box = 1
                captain = 2
                inLine 0 = 0
                begin 1
                offer
                drop
                box = 2
                captain = 0
                inLine 0 = 1
                begin 1
                offer
                drop
                box = 0
                captain = 1
                inLine 0 = 2
                account 0 = 0                   // two lost as the box, two won from the others
                account 1 = 0
                account 2 = 0
                """);
        run("otherwise the captain goes to the end, and the first is the captain: all round, of three", """
                seat 3
                start b 0 false
                begin 0
                offer
                drop
                box = 0
                captain = 2
                inLine 0 = 1
                begin 0
                offer
                drop
                box = 0
                captain = 1
                inLine 0 = 2
                account 0 = 4
                """);
        run("who was the box goes to its end, and the captain goes to the end: of six", """
                seat 6
                start b 0 false
                begin 1
                offer
                drop
                box = 1
                captain = 2
                inLine 0 = 3
                inLine 1 = 4
                inLine 2 = 5
                inLine 3 = 0
                begin 0
                offer
                drop
                box = 1
                captain = 3
                inLine 0 = 4
                inLine 1 = 5
                inLine 2 = 0
                inLine 3 = 2
                account 1 = 6
                account 0 = -6
                account 5 = 0
                """);
    }

    private static void record() {
        run("Rolls and plays of the game that is on, or was last, are kept", """
                start b 3 false
                begin 0
                turns 31#2 66#0
                offer
                drop
                played = 2
                rolledAt 1 = 66
                start b 3 false
                played = 2
                begin 1
                played = 0
                rolledAt 0 ! IndexOutOfBoundsException
                """);
        run("Fairness: of all rolls since the beginning, also of games before, and those that are not yet played", """
                start b 3 false
                begin 0
                turns 31#0
                offer
                drop
                start h 0 false
                begin 0
                fairness = 48
                roll 3 1
                fairness = 192                  // twice each: 8 * 8 twice, 4 * 4 four times
                """);
        run("Fairness is 0 if each face was rolled as often", """
                start b 3 false
                begin 0
                turns 65#0 43#0
                roll 1 2
                fairness = 0
                """);
    }

    private static void exceptions() {
        run("A method that throws an exception changes nothing: while a roll is to be played", """
                start b 3 false
                begin 0
                turns 61#0
                roll 3 1
                move 24 3
                roll 2 2 ! IllegalStateException
                play 99 ! IndexOutOfBoundsException
                move 24 3 ! UnsupportedOperationException
                finish ! UnsupportedOperationException
                offer ! IllegalStateException
                take ! IllegalStateException
                drop ! IllegalStateException
                beaver ! IllegalStateException
                begin 1 ! IllegalStateException
                start n 0 true ! IllegalStateException
                seat 3 ! IllegalStateException
                chance ! IllegalStateException
                state = r
                turn = 1
                men 1 24 = 1
                men 1 21 = 1
                played = 1
                fairness = 120                  // 61 and 31: 8 * 8 for 1, 2 * 2 for 6 and 3, 4 * 4 for three others
                cube = 1
                undo = 1
                move 24 3
                move 24 1
                finish
                isSound = true
                """);
        run("A method that throws an exception changes nothing: while a double is to be taken or dropped", """
                start b 3 false
                begin 0
                offer
                roll 2 2 ! IllegalStateException
                offer ! IllegalStateException
                beaver ! UnsupportedOperationException
                plays ! IllegalStateException
                play 0 ! IllegalStateException
                move 24 2 ! IllegalStateException
                undo ! IllegalStateException
                finish ! IllegalStateException
                begin 0 ! IllegalStateException
                start n 0 true ! IllegalStateException
                seat 3 ! IllegalStateException
                state = t
                turn = 1
                cube = 1
                owner = -1
                fairness = 0
                take = 2
                """);
        run("A method that throws an exception changes nothing: while one is on roll", """
                start b 3 false
                begin 0
                offer
                take
                roll 7 1 ! IllegalArgumentException
                roll 1 0 ! IllegalArgumentException
                offer ! UnsupportedOperationException
                take ! IllegalStateException
                drop ! IllegalStateException
                beaver ! IllegalStateException
                play 0 ! IllegalStateException
                move 24 2 ! IllegalStateException
                undo ! IllegalStateException
                finish ! IllegalStateException
                chance ! UnsupportedOperationException
                begin 1 ! IllegalStateException
                start n 0 true ! IllegalStateException
                seat 3 ! IllegalStateException
                state = d
                turn = 0
                cube = 2
                owner = 1
                fairness = 0
                stand 0 24:2 13:5 8:3 6:5
                """);
        run("A method that throws an exception changes nothing: while no game is on", """
                seat 3
                start h 0 true
                begin 0
                turns 66#0
                offer
                drop
                start q 0 false ! IllegalArgumentException
                start b 5 false ! IllegalStateException
                begin 2 ! IllegalArgumentException
                seat 7 ! IllegalArgumentException
                setRate 101 ! IllegalArgumentException
                equity 0 0 ! IllegalArgumentException
                roll 1 1 ! IllegalStateException
                play 0 ! IllegalStateException
                finish ! IllegalStateException
                drop ! IllegalStateException
                state = -
                played = 1
                score 1 = 1
                box = 1
                account 0 = -2
                setRate 25 = 25
                begin 0
                stand 0 24:1 23:1 22:1
                rush 2
                won = 1                         // Jacoby's rule holds yet
                """);
        run("If several exceptions apply, the one that is listed first is thrown: start", """
                start b 0 false
                begin 0
                start q 0 false ! IllegalArgumentException
                start b 26 false ! IllegalArgumentException
                offer
                drop
                seat 3
                start q 1 false ! IllegalArgumentException
                start b -1 false ! IllegalArgumentException
                """);
        run("If several exceptions apply, the one that is listed first is thrown: begin", """
                begin 2 ! IllegalArgumentException
                start b 1 false
                begin 0
                begin -1 ! IllegalArgumentException
                offer
                drop
                begin 2 ! IllegalArgumentException
                """);
        run("If several exceptions apply, the one that is listed first is thrown: roll", """
                roll 0 1 ! IllegalArgumentException
                start b 1 false
                begin 0
                roll 1 1
                roll 1 7 ! IllegalArgumentException
                play 0
                offer
                roll -1 1 ! IllegalArgumentException
                """);
        run("If several exceptions apply, the one that is listed first is thrown: moves, moveFrom, moveTo, play", """
                moves -1 ! IllegalStateException
                moveFrom -1 -1 ! IllegalStateException
                moveTo 99 99 ! IllegalStateException
                play 99 ! IllegalStateException
                start b 1 false
                begin 0
                moves 99 ! IllegalStateException
                moveFrom 99 0 ! IllegalStateException
                moveTo -1 0 ! IllegalStateException
                play -1 ! IllegalStateException
                """);
        run("If several exceptions apply, the one that is listed first is thrown: move, finish", """
                move 0 0 ! IllegalStateException
                finish ! IllegalStateException
                start b 1 false
                begin 0
                move 99 99 ! IllegalStateException
                finish ! IllegalStateException
                """);
        run("If several exceptions apply, the one that is listed first is thrown: men", """
                men 2 26 ! IllegalArgumentException
                men -1 -1 ! IllegalArgumentException
                """);
        run("If several exceptions apply, the one that is listed first is thrown: offer, beaver", """
                offer ! IllegalStateException
                beaver ! IllegalStateException
                start h 2 false
                beaver ! IllegalStateException
                begin 0
                beaver ! IllegalStateException
                offer
                take
                roll 6 6
                offer ! IllegalStateException               // the cube is the other's, too
                """);
        run("If several exceptions apply, the one that is listed first is thrown: offer by Crawford's rule", """
                start h 2 false
                begin 0
                offer
                drop
                offer ! IllegalStateException               // no game is on, and the next is the one
                begin 0 = true
                roll 6 6
                offer ! IllegalStateException
                play 0
                offer ! UnsupportedOperationException
                """);
        run("If several exceptions apply, the one that is listed first is thrown: worth, error, deep, chance", """
                worth 2 ! IllegalArgumentException
                error -1 ! IllegalStateException
                deep 99 ! IllegalStateException
                start b 1 false
                worth -1 ! IllegalArgumentException
                begin 0
                error 99 ! IllegalStateException
                deep -1 ! IllegalStateException
                roll 1 1
                chance ! IllegalStateException              // and this is no such ending
                """);
        run("If several exceptions apply, the one that is listed first is thrown: seat", """
                start b 1 false
                seat 2 ! IllegalArgumentException
                begin 0
                seat 7 ! IllegalArgumentException
                """);
    }

    public static void main(String[] args) {
        games();
        jacoby();
        matches();
        cube();
        judging();
        endings();
        equities();
        table();
        record();
        exceptions();
        CHECKS.end("EdgesOfGamesTest");
    }
}
