/** Promises 19 and 20: squares and runs by their ranks. */
public final class RepeatTest {
    private static final Check CHECK = new Check("RepeatTest");

    public static void main(String[] args) {
        promise19Square();
        promise19WrongInputs();
        promise20Run();
        promise20Root();
        promise20WrongInputs();
        CHECK.end();
    }

    private static void squares(String word, int[]... want) {
        BorderRuns x = Check.of(word);
        for (int rank = 0; rank < want.length; rank++) {
            for (int what = 0; what < 2; what++) {
                CHECK.due("square(" + rank + ", " + what + ") of " + word, x.square(rank, what), want[rank][what]);
            }
        }
        CHECK.due("square(" + want.length + ", 0) of " + word, x.square(want.length, 0), BorderRuns.NONE);
        CHECK.due("square(" + want.length + ", 1) of " + word, x.square(want.length, 1), BorderRuns.NONE);
    }

    private static void promise19Square() {
        squares("mississippi", new int[][] {{1, 3}, {2, 1}, {2, 3}, {5, 1}, {8, 1}});
        squares("aaaa", new int[][] {{0, 1}, {0, 2}, {1, 1}, {2, 1}});
        squares("abcabc", new int[][] {{0, 3}});
        squares("abab", new int[][] {{0, 2}});
        squares("aba");
        squares("");
        BorderRuns same = Check.of("q".repeat(40));
        CHECK.due("square(19, 1)", same.square(19, 1), 20);
        CHECK.due("square(20, 0)", same.square(20, 0), 1);
        CHECK.due("square(399, 0)", same.square(399, 0), 38);
        CHECK.due("square(400, 0)", same.square(400, 0), BorderRuns.NONE);
    }

    private static void promise19WrongInputs() {
        BorderRuns x = Check.of("aa");
        CHECK.due("square(-1, 0)", x.square(-1, 0), BorderRuns.BAD_VALUE);
        CHECK.due("square(0, 2)", x.square(0, 2), BorderRuns.BAD_VALUE);
        CHECK.due("square(0, -1)", x.square(0, -1), BorderRuns.BAD_VALUE);
        CHECK.due("square(1, 2)", x.square(1, 2), BorderRuns.BAD_VALUE);
        CHECK.due("square(most, 0)", x.square(Integer.MAX_VALUE, 0), BorderRuns.NONE);
        CHECK.due("square(least, 0)", x.square(Integer.MIN_VALUE, 0), BorderRuns.BAD_VALUE);
    }

    private static void runs(String word, int[]... want) {
        BorderRuns x = Check.of(word);
        for (int rank = 0; rank < want.length; rank++) {
            for (int what = 0; what < 5; what++) {
                CHECK.due("run(" + rank + ", " + what + ") of " + word, x.run(rank, what), want[rank][what]);
            }
        }
        for (int what = 0; what < 5; what++) {
            CHECK.due("run(" + want.length + ", " + what + ") of " + word, x.run(want.length, what), BorderRuns.NONE);
        }
        CHECK.due("count(5) of " + word, x.count(5), want.length);
    }

    private static void promise20Run() {
        runs("mississippi", new int[][] {{1, 8, 3, 1, 2}, {2, 4, 1, 2, 1}, {5, 7, 1, 5, 1}, {8, 10, 1, 8, 1}});
        runs("aaaa", new int[][] {{0, 4, 1, 0, 3}});
        runs("ababa", new int[][] {{0, 5, 2, 0, 2}});
        runs("aabaabaa", new int[][] {{0, 2, 1, 0, 1}, {0, 8, 3, 0, 3}, {3, 5, 1, 3, 1}, {6, 8, 1, 6, 1}});
        runs("abcabd");
        runs("a");
        runs("");
        runs("a".repeat(40), new int[][] {{0, 40, 1, 0, 39}});
    }

    private static void promise20Root() {
        runs("bababa", new int[][] {{0, 6, 2, 1, 3}});
        runs("cabcab", new int[][] {{0, 6, 3, 1, 1}});
        runs("bcabca", new int[][] {{0, 6, 3, 2, 1}});
        runs("xbabab", new int[][] {{1, 6, 2, 2, 2}});
        runs("abaaba", new int[][] {{0, 6, 3, 2, 1}, {2, 4, 1, 2, 1}});
    }

    private static void promise20WrongInputs() {
        BorderRuns x = Check.of("aa");
        CHECK.due("run(-1, 0)", x.run(-1, 0), BorderRuns.BAD_VALUE);
        CHECK.due("run(0, 5)", x.run(0, 5), BorderRuns.BAD_VALUE);
        CHECK.due("run(0, -1)", x.run(0, -1), BorderRuns.BAD_VALUE);
        CHECK.due("run(1, 5)", x.run(1, 5), BorderRuns.BAD_VALUE);
        CHECK.due("run(most, 0)", x.run(Integer.MAX_VALUE, 0), BorderRuns.NONE);
        CHECK.due("run(least, 0)", x.run(Integer.MIN_VALUE, 0), BorderRuns.BAD_VALUE);
    }
}
