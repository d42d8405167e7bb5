/** The sentences of promises 19 and 20, and of "squares, runs", that name a boundary case: each has a test under its words. */
public final class RepeatEdgesTest {
    private static final Check CHECK = new Check("RepeatEdgesTest");
    private static final int[] NEGATIVE = {-1, -2, Integer.MIN_VALUE};
    private static final String SAME = "z".repeat(40);
    private static final String TWICE = "abcdefghijklmnopqrst".repeat(2);

    public static void main(String[] args) {
        squareRank();
        squareWhat();
        squareChecksInOrder();
        squareWithoutSoMany();
        squaresInOrder();
        leastAndGreatestSquares();
        runRank();
        runWhat();
        runChecksInOrder();
        runWithoutSoMany();
        runIsTwiceItsPeriodAtLeast();
        runCantBeMadeLonger();
        runAtTheEndsOfTheWord();
        runHasItsLeastPeriod();
        runsInOrder();
        rootIsTheLeastAndTheFirst();
        squaresOfARun();
        CHECK.end();
    }

    private static Scene of(String word) {
        return Scene.of(CHECK, word);
    }

    // Promise 19

    private static void squares(String word, int[]... want) {
        Scene scene = of(word);
        for (int rank = 0; rank < want.length; rank++) {
            int asked = rank;
            scene.tells("square(" + rank + ", 0)", x -> x.square(asked, 0), want[rank][0]);
            scene.tells("square(" + rank + ", 1)", x -> x.square(asked, 1), want[rank][1]);
        }
        scene.refuses("square(" + want.length + ", 0)", x -> x.square(want.length, 0), BorderRuns.NONE);
        scene.refuses("square(" + want.length + ", 1)", x -> x.square(want.length, 1), BorderRuns.NONE);
        scene.tells("count(4)", x -> x.count(4), want.length);
    }

    /** "rank: a rank, from 0"; "BAD_VALUE (rank is negative ...)" */
    private static void squareRank() {
        for (int rank : NEGATIVE) {
            for (String word : new String[] {"", "bb", SAME}) {
                of(word).refuses("square(" + rank + ", 0)", x -> x.square(rank, 0), BorderRuns.BAD_VALUE);
                of(word).refuses("square(" + rank + ", 1)", x -> x.square(rank, 1), BorderRuns.BAD_VALUE);
            }
        }
        of("cbb").tells("square(0, 0)", x -> x.square(0, 0), 1);
    }

    /** "what: 0 for the place from which the square goes, 1 for its half"; "BAD_VALUE (... or what)" */
    private static void squareWhat() {
        for (int what : new int[] {-1, 2, Integer.MIN_VALUE, Integer.MAX_VALUE}) {
            of("cbb").refuses("square(0, " + what + ")", x -> x.square(0, what), BorderRuns.BAD_VALUE);
            of(SAME).refuses("square(399, " + what + ")", x -> x.square(399, what), BorderRuns.BAD_VALUE);
        }
        of("xxcdcd").tells("square(1, 0)", x -> x.square(1, 0), 2);
        of("xxcdcd").tells("square(1, 1)", x -> x.square(1, 1), 2);
    }

    /** "BAD_VALUE ...; NONE": what is out of range is told even if there are not so many. */
    private static void squareChecksInOrder() {
        for (int what : new int[] {-1, 2}) {
            of("").refuses("square(0, " + what + ")", x -> x.square(0, what), BorderRuns.BAD_VALUE);
            of("bb").refuses("square(1, " + what + ")", x -> x.square(1, what), BorderRuns.BAD_VALUE);
            of("bb").refuses("square(-1, " + what + ")", x -> x.square(-1, what), BorderRuns.BAD_VALUE);
        }
    }

    /** "NONE if there are not so many" */
    private static void squareWithoutSoMany() {
        squares("");
        squares("b");
        squares("bc");
        squares("bcb");
        squares("bb", new int[] {0, 1});
        of("bb").refuses("square(most, 0)", x -> x.square(Integer.MAX_VALUE, 0), BorderRuns.NONE);
        of(SAME).tells("square(399, 0)", x -> x.square(399, 0), 38);
        of(SAME).tells("square(399, 1)", x -> x.square(399, 1), 1);
        of(SAME).refuses("square(400, 0)", x -> x.square(400, 0), BorderRuns.NONE);
    }

    /** "ordered by the place from which they go, then by their halves" */
    private static void squaresInOrder() {
        squares("bbbb", new int[] {0, 1}, new int[] {0, 2}, new int[] {1, 1}, new int[] {2, 1});
        squares("bbcbbc", new int[] {0, 1}, new int[] {0, 3}, new int[] {3, 1});
        of(SAME).tells("square(19, 1)", x -> x.square(19, 1), 20);
        of(SAME).tells("square(19, 0)", x -> x.square(19, 0), 0);
        of(SAME).tells("square(20, 1)", x -> x.square(20, 1), 1);
        of(SAME).tells("square(20, 0)", x -> x.square(20, 0), 1);
    }

    /** A half is a letter long, or half the word; a square can end with the word. */
    private static void leastAndGreatestSquares() {
        squares("cdbb", new int[] {2, 1});
        squares("bbcd", new int[] {0, 1});
        squares("xcdcd", new int[] {1, 2});
        squares(TWICE, new int[] {0, 20});
        squares(TWICE.substring(0, 39));
    }

    // Promise 20

    private static void runs(String word, int[]... want) {
        Scene scene = of(word);
        for (int rank = 0; rank < want.length; rank++) {
            int asked = rank;
            for (int what = 0; what <= 4; what++) {
                int told = what;
                scene.tells("run(" + rank + ", " + what + ")", x -> x.run(asked, told), want[rank][what]);
            }
        }
        for (int what = 0; what <= 4; what++) {
            int told = what;
            scene.refuses("run(" + want.length + ", " + what + ")", x -> x.run(want.length, told), BorderRuns.NONE);
        }
        scene.tells("count(5)", x -> x.count(5), want.length);
    }

    /** "rank: a rank, from 0"; "BAD_VALUE (rank is negative ...)" */
    private static void runRank() {
        for (int rank : NEGATIVE) {
            for (int what = 0; what <= 4; what++) {
                int asked = what;
                of("").refuses("run(" + rank + ", " + what + ")", x -> x.run(rank, asked), BorderRuns.BAD_VALUE);
                of("bb").refuses("run(" + rank + ", " + what + ")", x -> x.run(rank, asked), BorderRuns.BAD_VALUE);
                of(SAME).refuses("run(" + rank + ", " + what + ")", x -> x.run(rank, asked), BorderRuns.BAD_VALUE);
            }
        }
        of("cbb").tells("run(0, 0)", x -> x.run(0, 0), 1);
    }

    /** "what: 0 ... 4"; "BAD_VALUE (... or what)" */
    private static void runWhat() {
        for (int what : new int[] {-1, 5, Integer.MIN_VALUE, Integer.MAX_VALUE}) {
            of("cbb").refuses("run(0, " + what + ")", x -> x.run(0, what), BorderRuns.BAD_VALUE);
            of(SAME).refuses("run(0, " + what + ")", x -> x.run(0, what), BorderRuns.BAD_VALUE);
        }
        int[] told = {1, 8, 3, 2, 2};
        for (int what = 0; what <= 4; what++) {
            int asked = what;
            of("xdbcdbcdx").tells("run(0, " + what + ")", x -> x.run(0, asked), told[what]);
        }
    }

    /** "BAD_VALUE ...; NONE": what is out of range is told even if there are not so many. */
    private static void runChecksInOrder() {
        for (int what : new int[] {-1, 5}) {
            of("").refuses("run(0, " + what + ")", x -> x.run(0, what), BorderRuns.BAD_VALUE);
            of("bb").refuses("run(1, " + what + ")", x -> x.run(1, what), BorderRuns.BAD_VALUE);
            of("bb").refuses("run(-1, " + what + ")", x -> x.run(-1, what), BorderRuns.BAD_VALUE);
        }
    }

    /** "NONE if there are not so many" */
    private static void runWithoutSoMany() {
        runs("");
        runs("b");
        runs("bc");
        runs("bb", new int[] {0, 2, 1, 0, 1});
        runs(SAME, new int[] {0, 40, 1, 0, 39});
        of("bb").refuses("run(most, 0)", x -> x.run(Integer.MAX_VALUE, 0), BorderRuns.NONE);
    }

    /** "it is at least 2 * p long" */
    private static void runIsTwiceItsPeriodAtLeast() {
        runs("bcb");
        runs("bcbc", new int[] {0, 4, 2, 0, 1});
        runs("bcdbc");
        runs("bcdbcd", new int[] {0, 6, 3, 0, 1});
        runs(TWICE, new int[] {0, 40, 20, 0, 1});
        runs(TWICE.substring(0, 39));
    }

    /** "neither the factor from f - 1 to t nor that from f to t + 1 ... has the period p, too" */
    private static void runCantBeMadeLonger() {
        runs("bbb", new int[] {0, 3, 1, 0, 2});
        runs("bcbcb", new int[] {0, 5, 2, 0, 2});
        runs("xbcbcbx", new int[] {1, 6, 2, 1, 2});
        runs("bbcbb", new int[] {0, 2, 1, 0, 1}, new int[] {3, 5, 1, 3, 1});
    }

    /** "(if they are there)": a run can go from the first place, and to the end. */
    private static void runAtTheEndsOfTheWord() {
        runs("bbx", new int[] {0, 2, 1, 0, 1});
        runs("xbb", new int[] {1, 3, 1, 1, 1});
        runs("xbbx", new int[] {1, 3, 1, 1, 1});
        runs("abcdefghijklmnopqrstuvwxyzabcdefghijklmm", new int[] {38, 40, 1, 38, 1});
    }

    /** "with its period": the least one, so like letters are no run of twice as many. */
    private static void runHasItsLeastPeriod() {
        runs("bbbb", new int[] {0, 4, 1, 0, 3});
        runs("bcbcbcbc", new int[] {0, 8, 2, 0, 5});
    }

    /** "ordered by the place from which they go, then by their periods" */
    private static void runsInOrder() {
        runs("bbcbbc", new int[] {0, 2, 1, 0, 1}, new int[] {0, 6, 3, 0, 1}, new int[] {3, 5, 1, 3, 1});
        runs("cbbcbb", new int[] {0, 6, 3, 1, 1}, new int[] {1, 3, 1, 1, 1}, new int[] {4, 6, 1, 4, 1});
        runs("bbcc", new int[] {0, 2, 1, 0, 1}, new int[] {2, 4, 1, 2, 1});
    }

    /** "the least factor of p letters in it ... told by the first place in the run from which it goes" */
    private static void rootIsTheLeastAndTheFirst() {
        runs("cbcbcb", new int[] {0, 6, 2, 1, 3});
        runs("cdbcdb", new int[] {0, 6, 3, 2, 1});
        runs("xdbdb", new int[] {1, 5, 2, 2, 1});
        runs("acbcbx", new int[] {1, 5, 2, 2, 1});
        runs("zyzya", new int[] {0, 4, 2, 1, 1});
        runs("cbbcbb", new int[] {0, 6, 3, 1, 1}, new int[] {1, 3, 1, 1, 1}, new int[] {4, 6, 1, 4, 1});
        runs("bcbbcb", new int[] {0, 6, 3, 2, 1}, new int[] {2, 4, 1, 2, 1});
        runs("bdbcbdbc", new int[] {0, 8, 4, 2, 1});
        of("tabcdefghijklmnopqrs".repeat(2)).tells("run(0, 3)", x -> x.run(0, 3), 1);
        of("bcdefghijklmnopqrsta".repeat(2)).tells("run(0, 3)", x -> x.run(0, 3), 19);
    }

    /** "how many squares with its period as their half it has": one at least. */
    private static void squaresOfARun() {
        runs("bcbcx", new int[] {0, 4, 2, 0, 1});
        runs("bcbcbx", new int[] {0, 5, 2, 0, 2});
        runs("bcbcbcx", new int[] {0, 6, 2, 0, 3});
        of(SAME).tells("run(0, 4)", x -> x.run(0, 4), 39);
        of("bc".repeat(20)).tells("run(0, 4)", x -> x.run(0, 4), 37);
    }
}
