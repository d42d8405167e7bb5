/** Promises 22 to 24: what a further letter would bring, the best letter, and the counts. */
public final class CountTest {
    private static final Check CHECK = new Check("CountTest");
    private static final String FORTY = "abcdefghijabcdefghijabcdefghijabcdefghij";

    public static void main(String[] args) {
        promise22IfLetter();
        promise22ChangesNothing();
        promise22WrongInputs();
        promise23BestLetter();
        promise23WrongInputs();
        promise24Words();
        promise24HistoryAndText();
        promise24WrongInputs();
        CHECK.end();
    }

    private static void ifLetter(String word, char letter, int... want) {
        BorderRuns x = Check.of(word);
        for (int what = 0; what < want.length; what++) {
            CHECK.due("ifLetter(" + letter + ", " + what + ") of " + word, x.ifLetter(letter - 'a', what), want[what]);
        }
    }

    private static void promise22IfLetter() {
        ifLetter("", 'z', 0, 1, 0, 0);
        ifLetter("a", 'a', 1, 1, 1, 1);
        ifLetter("a", 'b', 0, 2, 0, 0);
        ifLetter("abaab", 'a', 3, 3, 1, 2);
        ifLetter("abaab", 'b', 0, 5, 1, 2);
        ifLetter("abaab", 'c', 0, 6, 0, 1);
        ifLetter("aaa", 'a', 3, 1, 2, 1);
        ifLetter("a".repeat(39), 'a', 39, 1, 20, 1);
        ifLetter("a".repeat(39), 'b', 0, 40, 0, 1);
    }

    private static void promise22ChangesNothing() {
        BorderRuns x = Check.of("ab");
        x.ifLetter(0, 3);
        x.bestLetter(2);
        CHECK.dueWord("ifLetter()", x, "ab");
        CHECK.due("count(10)", x.count(10), 2);
    }

    private static void promise22WrongInputs() {
        BorderRuns x = Check.of("ab");
        CHECK.due("ifLetter(-1, 0)", x.ifLetter(-1, 0), BorderRuns.BAD_VALUE);
        CHECK.due("ifLetter(26, 0)", x.ifLetter(26, 0), BorderRuns.BAD_VALUE);
        CHECK.due("ifLetter(0, -1)", x.ifLetter(0, -1), BorderRuns.BAD_VALUE);
        CHECK.due("ifLetter(0, 4)", x.ifLetter(0, 4), BorderRuns.BAD_VALUE);
        BorderRuns full = Check.of(FORTY);
        CHECK.due("ifLetter(0, 4) of 40", full.ifLetter(0, 4), BorderRuns.BAD_VALUE);
        CHECK.due("ifLetter(26, 0) of 40", full.ifLetter(26, 0), BorderRuns.BAD_VALUE);
        CHECK.due("ifLetter(25, 3) of 40", full.ifLetter(25, 3), BorderRuns.FULL);
    }

    private static void bestLetter(String word, int... want) {
        BorderRuns x = Check.of(word);
        for (int what = 0; what < want.length; what++) {
            CHECK.due("bestLetter(" + what + ") of " + word, x.bestLetter(what), want[what]);
        }
    }

    private static void promise23BestLetter() {
        bestLetter("", 0, 0, 0, 0);
        bestLetter("z", 25, 0, 25, 25);
        bestLetter("a", 0, 1, 0, 0);
        bestLetter("abaab", 0, 2, 0, 0);
        bestLetter("cbcbc", 1, 0, 1, 2);
        bestLetter("zyzyz", 24, 0, 24, 25);
        bestLetter("zabcdefghijklmnopqrstuvwxyz", 0, 1, 25, 25);
    }

    private static void promise23WrongInputs() {
        BorderRuns x = Check.of("ab");
        CHECK.due("bestLetter(-1)", x.bestLetter(-1), BorderRuns.BAD_VALUE);
        CHECK.due("bestLetter(4)", x.bestLetter(4), BorderRuns.BAD_VALUE);
        BorderRuns full = Check.of(FORTY);
        CHECK.due("bestLetter(4) of 40", full.bestLetter(4), BorderRuns.BAD_VALUE);
        for (int what = 0; what <= 3; what++) {
            CHECK.due("bestLetter(" + what + ") of 40", full.bestLetter(what), BorderRuns.FULL);
        }
    }

    private static void counts(String word, int... want) {
        BorderRuns x = Check.of(word);
        for (int what = 0; what < want.length; what++) {
            CHECK.due("count(" + what + ") of " + word, x.count(what), want[what]);
        }
    }

    private static void promise24Words() {
        counts("", 0, 0, 0, 0, 0, 0, 0, 0, 0, 0);
        counts("z", 1, 1, 1, 1, 0, 0, 0, 1, 0, 0);
        counts("abcbc", 5, 3, 12, 7, 1, 1, 0, 5, 2, 1);
        counts("aaaa", 4, 1, 4, 4, 4, 1, 3, 1, 3, 2);
        counts("mississippi", 11, 4, 53, 17, 5, 4, 0, 11, 4, 4);
        counts("a".repeat(40), 40, 1, 40, 40, 400, 1, 39, 1, 39, 20);
        counts(FORTY, 40, 10, 355, 40, 22, 1, 30, 10, 30, 11);
    }

    private static void promise24HistoryAndText() {
        BorderRuns x = Check.of("abc");
        Check.typeInto(x, "ab(");
        CHECK.due("count(10)", x.count(10), 3);
        CHECK.due("count(11)", x.count(11), 3);
        x.add(0);
        x.add(0);
        CHECK.due("count(10) of five acts", x.count(10), 4);
        x.undo();
        CHECK.due("count(10) behind undo()", x.count(10), 3);
    }

    private static void promise24WrongInputs() {
        BorderRuns x = Check.of("ab");
        CHECK.due("count(-1)", x.count(-1), BorderRuns.BAD_VALUE);
        CHECK.due("count(12)", x.count(12), BorderRuns.BAD_VALUE);
        CHECK.due("count(least)", x.count(Integer.MIN_VALUE), BorderRuns.BAD_VALUE);
    }
}
