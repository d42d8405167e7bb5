/** Promise 16: factors by where they end, their classes, and their periods. */
public final class FactorTest {
    private static final Check CHECK = new Check("FactorTest");

    public static void main(String[] args) {
        promise16Ends();
        promise16Classes();
        promise16Periods();
        promise16WrongInputs();
        CHECK.end();
    }

    /** The answers for what = first, first + 1, ... */
    private static void factor(String word, int from, int to, int first, int... want) {
        BorderRuns x = Check.of(word);
        for (int i = 0; i < want.length; i++) {
            int what = first + i;
            CHECK.due("factor(" + from + ", " + to + ", " + what + ") of " + word, x.factor(from, to, what), want[i]);
        }
    }

    private static void promise16Ends() {
        factor("abcbc", 1, 2, 0, 2, 2, 4);
        factor("abcbc", 3, 4, 0, 2, 2, 4);
        factor("abcbc", 0, 5, 0, 1, 5, 5);
        factor("aaaa", 0, 2, 0, 3, 2, 4);
        factor("aaaa", 2, 4, 0, 3, 2, 4);
        factor("aaaa", 1, 2, 0, 4, 1, 4);
        factor("ababa", 2, 5, 0, 2, 3, 5);
        factor("aab", 0, 1, 0, 2, 1, 2);
        factor("a", 0, 1, 0, 1, 1, 1);
        factor("a".repeat(40), 39, 40, 0, 40, 1, 40);
    }

    private static void promise16Classes() {
        factor("abcbc", 1, 2, 3, 1, 1, 0);
        factor("abcbc", 2, 3, 3, 2, 1, 0);
        factor("abcbc", 1, 3, 3, 2, 1, 0);
        factor("abcbc", 0, 3, 3, 3, 3, 2);
        factor("abcbc", 1, 5, 3, 5, 3, 2);
        factor("abcbc", 3, 5, 3, 2, 1, 0);
        factor("abcbc", 2, 4, 3, 4, 2, 1);
        factor("aaaa", 1, 3, 3, 2, 2, 1);
        factor("xabyab", 5, 6, 3, 2, 1, 0);
        factor("abxab", 1, 2, 3, 2, 1, 0);
        factor("bab", 2, 3, 3, 1, 1, 0);
        factor("a", 0, 1, 3, 1, 1, 0);
    }

    private static void promise16Periods() {
        factor("xabaabx", 1, 6, 6, 3, 2, 1, 166);
        factor("xababx", 1, 5, 6, 2, 2, 0, 200);
        factor("ababa", 0, 5, 6, 2, 3, 1, 250);
        factor("aaa", 0, 3, 6, 1, 2, 0, 300);
        factor("abc", 1, 2, 6, 1, 0, 1, 100);
        factor("abc", 0, 3, 6, 3, 0, 1, 100);
        factor("abcabcab", 0, 8, 6, 3, 5, 1, 266);
        factor("aabaab", 0, 6, 6, 3, 3, 0, 200);
        factor("a".repeat(40), 0, 40, 6, 1, 39, 0, 4000);
    }

    private static void promise16WrongInputs() {
        BorderRuns x = Check.of("abc");
        int[][] places = {{0, 0}, {1, 1}, {2, 1}, {-1, 1}, {0, 4}, {3, 3}, {3, 4}, {0, -1},
            {Integer.MIN_VALUE, Integer.MAX_VALUE}, {Integer.MAX_VALUE, Integer.MIN_VALUE}};
        for (int[] place : places) {
            for (int what = -1; what <= 10; what++) {
                CHECK.due("factor(" + place[0] + ", " + place[1] + ", " + what + ")",
                    x.factor(place[0], place[1], what), BorderRuns.UNKNOWN);
            }
        }
        CHECK.due("factor(0, 3, -1)", x.factor(0, 3, -1), BorderRuns.BAD_VALUE);
        CHECK.due("factor(0, 3, 10)", x.factor(0, 3, 10), BorderRuns.BAD_VALUE);
        CHECK.due("factor(0, 1, 0) of none", new BorderRuns().factor(0, 1, 0), BorderRuns.UNKNOWN);
    }
}
