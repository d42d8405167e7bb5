/** The sentences of promises 22 to 24 that name a boundary case: each has a test under its words. */
public final class LetterEdgesTest {
    private static final Check CHECK = new Check("LetterEdgesTest");
    private static final int[] BAD_LETTERS = {-1, 26, Integer.MIN_VALUE, Integer.MAX_VALUE};
    private static final int[] BAD_WHATS = {-1, 4, Integer.MIN_VALUE, Integer.MAX_VALUE};
    private static final String SAME = "z".repeat(40);
    private static final String FORTY = "abcdefghijabcdefghijabcdefghijabcdefghiz";
    private static final String THIRTY_NINE = FORTY.substring(0, 39);
    private static final String ALPHABET = "abcdefghijklmnopqrstuvwxyz";

    public static void main(String[] args) {
        ifLetterLetter();
        ifLetterWhat();
        ifLetterWhenFull();
        ifLetterChecksInOrder();
        ifLetterBringsNothing();
        ifLetterMakesTheWordFull();
        bestLetterWhat();
        bestLetterWhenFull();
        bestLetterChecksInOrder();
        bestLetterIsTheFirstOfSeveral();
        bestLetterIsTheFirstOrTheLast();
        countWhat();
        countOfTheEmptyWord();
        countOfOneLetter();
        countOfFortyLetters();
        countUnlikeLetters();
        countWithoutABorder();
        countTwiceOrMore();
        countClasses();
        countUnlikeSquares();
        countStates();
        countText();
        CHECK.end();
    }

    private static Scene of(String word) {
        return Scene.of(CHECK, word);
    }

    private static void ifLetter(String word, int letter, int... want) {
        Scene scene = of(word);
        for (int what = 0; what < want.length; what++) {
            int asked = what;
            scene.tells("ifLetter(" + letter + ", " + what + ")", x -> x.ifLetter(letter, asked), want[what]);
        }
    }

    // Promise 22

    /** "letter: 0 to 25"; "BAD_VALUE" */
    private static void ifLetterLetter() {
        for (int what = 0; what <= 3; what++) {
            int asked = what;
            for (int letter : BAD_LETTERS) {
                String call = "ifLetter(" + letter + ", " + what + ")";
                of("").refuses(call, x -> x.ifLetter(letter, asked), BorderRuns.BAD_VALUE);
                of("bcb").refuses(call, x -> x.ifLetter(letter, asked), BorderRuns.BAD_VALUE);
            }
        }
        ifLetter("az", 0, 1, 2, 0, 0);
        ifLetter("az", 25, 0, 2, 1, 1);
    }

    /** "what: 0 ... 3"; "BAD_VALUE" */
    private static void ifLetterWhat() {
        for (int what : BAD_WHATS) {
            of("").refuses("ifLetter(0, " + what + ")", x -> x.ifLetter(0, what), BorderRuns.BAD_VALUE);
            of("bcb").refuses("ifLetter(25, " + what + ")", x -> x.ifLetter(25, what), BorderRuns.BAD_VALUE);
        }
        ifLetter("bcb", 2, 2, 2, 1, 1);
    }

    /** "FULL if the word has 40" */
    private static void ifLetterWhenFull() {
        for (int what = 0; what <= 3; what++) {
            int asked = what;
            of(FORTY).refuses("ifLetter(0, " + what + ")", x -> x.ifLetter(0, asked), BorderRuns.FULL);
            of(FORTY).refuses("ifLetter(25, " + what + ")", x -> x.ifLetter(25, asked), BorderRuns.FULL);
            of(SAME).refuses("ifLetter(25, " + what + ")", x -> x.ifLetter(25, asked), BorderRuns.FULL);
        }
    }

    /** "BAD_VALUE; FULL": what is out of range is told even if there is no room. */
    private static void ifLetterChecksInOrder() {
        for (int letter : BAD_LETTERS) {
            of(FORTY).refuses("ifLetter(" + letter + ", 0)", x -> x.ifLetter(letter, 0), BorderRuns.BAD_VALUE);
        }
        for (int what : BAD_WHATS) {
            of(FORTY).refuses("ifLetter(0, " + what + ")", x -> x.ifLetter(0, what), BorderRuns.BAD_VALUE);
        }
    }

    /** "0 for the longest border of the word then (0 without one)": also of one letter alone. */
    private static void ifLetterBringsNothing() {
        ifLetter("", 0, 0, 1, 0, 0);
        ifLetter("", 25, 0, 1, 0, 0);
        ifLetter("b", 2, 0, 2, 0, 0);
        ifLetter("b", 1, 1, 1, 1, 1);
        ifLetter("bb", 1, 2, 1, 1, 1);
        ifLetter("bb", 2, 0, 3, 0, 1);
    }

    /** 39 letters leave room for one more. */
    private static void ifLetterMakesTheWordFull() {
        ifLetter(SAME.substring(1), 25, 39, 1, 20, 1);
        ifLetter(SAME.substring(1), 0, 0, 40, 0, 1);
        ifLetter(THIRTY_NINE, 9, 30, 10, 2, 1);
        ifLetter(THIRTY_NINE, 25, 0, 40, 0, 1);
    }

    // Promise 23

    /** "what: 0 to 3"; "BAD_VALUE" */
    private static void bestLetterWhat() {
        for (int what : BAD_WHATS) {
            of("").refuses("bestLetter(" + what + ")", x -> x.bestLetter(what), BorderRuns.BAD_VALUE);
            of("bcb").refuses("bestLetter(" + what + ")", x -> x.bestLetter(what), BorderRuns.BAD_VALUE);
        }
        of("zyzyz").tells("bestLetter(0)", x -> x.bestLetter(0), 24);
        of("zyzyz").tells("bestLetter(3)", x -> x.bestLetter(3), 25);
    }

    /** "FULL if the word has 40" */
    private static void bestLetterWhenFull() {
        for (int what = 0; what <= 3; what++) {
            int asked = what;
            of(FORTY).refuses("bestLetter(" + what + ")", x -> x.bestLetter(asked), BorderRuns.FULL);
            of(SAME).refuses("bestLetter(" + what + ")", x -> x.bestLetter(asked), BorderRuns.FULL);
        }
        of(THIRTY_NINE).tells("bestLetter(0)", x -> x.bestLetter(0), 9);
        of(SAME.substring(1)).tells("bestLetter(2)", x -> x.bestLetter(2), 25);
    }

    /** "BAD_VALUE; FULL" */
    private static void bestLetterChecksInOrder() {
        for (int what : BAD_WHATS) {
            of(FORTY).refuses("bestLetter(" + what + ")", x -> x.bestLetter(what), BorderRuns.BAD_VALUE);
        }
    }

    /** "of several the first one" */
    private static void bestLetterIsTheFirstOfSeveral() {
        for (int what = 0; what <= 3; what++) {
            int asked = what;
            of("").tells("bestLetter(" + what + ")", x -> x.bestLetter(asked), 0);
        }
        of("a").tells("bestLetter(1)", x -> x.bestLetter(1), 1);
        of("b").tells("bestLetter(1)", x -> x.bestLetter(1), 0);
        of("ab").tells("bestLetter(1)", x -> x.bestLetter(1), 2);
        of("bcd").tells("bestLetter(2)", x -> x.bestLetter(2), 3);
        of("cbcdd").tells("bestLetter(3)", x -> x.bestLetter(3), 0);
    }

    /** The letters from a (0) to z (25) are all asked. */
    private static void bestLetterIsTheFirstOrTheLast() {
        int[] wants = {25, 0, 25, 25};
        int[] wantsOfA = {0, 1, 0, 0};
        for (int what = 0; what <= 3; what++) {
            int asked = what;
            of("z").tells("bestLetter(" + what + ")", x -> x.bestLetter(asked), wants[what]);
            of("a").tells("bestLetter(" + what + ")", x -> x.bestLetter(asked), wantsOfA[what]);
        }
        of(ALPHABET.substring(0, 25)).tells("bestLetter(1)", x -> x.bestLetter(1), 25);
        of(ALPHABET.substring(1)).tells("bestLetter(1)", x -> x.bestLetter(1), 0);
    }

    // Promise 24

    private static void counts(String word, int... want) {
        Scene scene = of(word);
        for (int what = 0; what < want.length; what++) {
            int asked = what;
            scene.tells("count(" + what + ")", x -> x.count(asked), want[what]);
        }
    }

    /** "what: 0 ... 11"; "BAD_VALUE" */
    private static void countWhat() {
        for (int what : new int[] {-1, 12, Integer.MIN_VALUE, Integer.MAX_VALUE}) {
            for (String word : new String[] {"", "bcb", FORTY}) {
                of(word).refuses("count(" + what + ")", x -> x.count(what), BorderRuns.BAD_VALUE);
            }
        }
        counts("bcb", 3, 2, 5, 3, 0, 0, 1, 2, 1, 0, 4, 3);
    }

    /** "7 for its period (0 for the empty word)", "6 for its longest border (0 without one)", and no class of none. */
    private static void countOfTheEmptyWord() {
        counts("", 0, 0, 0, 0, 0, 0, 0, 0, 0, 0, 4, 3);
    }

    private static void countOfOneLetter() {
        counts("a", 1, 1, 1, 1, 0, 0, 0, 1, 0, 0, 4, 3);
        counts("z", 1, 1, 1, 1, 0, 0, 0, 1, 0, 0, 4, 3);
    }

    private static void countOfFortyLetters() {
        counts(SAME, 40, 1, 40, 40, 400, 1, 39, 1, 39, 20, 4, 3);
        counts("abcdefghijklmnopqrst".repeat(2), 40, 20, 610, 40, 1, 1, 20, 20, 20, 1, 4, 3);
    }

    /** "letters from a (0) to z (25)": up to 26 unlike ones. */
    private static void countUnlikeLetters() {
        counts("az", 2, 2);
        counts(ALPHABET, 26, 26, 351, 26);
        counts(ALPHABET + ALPHABET.substring(0, 14), 40, 26);
        counts("zz", 2, 1);
    }

    /** "6 for its longest border (0 without one)" */
    private static void countWithoutABorder() {
        of("bc").tells("count(6)", x -> x.count(6), 0);
        of("bcb").tells("count(6)", x -> x.count(6), 1);
        of(FORTY).tells("count(6)", x -> x.count(6), 0);
        of(FORTY).tells("count(7)", x -> x.count(7), 40);
        of(THIRTY_NINE).tells("count(6)", x -> x.count(6), 29);
        of(THIRTY_NINE).tells("count(7)", x -> x.count(7), 10);
    }

    /** "the longest factor that stands twice or more (its length; 0 without one)" */
    private static void countTwiceOrMore() {
        of("b").tells("count(8)", x -> x.count(8), 0);
        of("bcd").tells("count(8)", x -> x.count(8), 0);
        of("bcdb").tells("count(8)", x -> x.count(8), 1);
        of("bcbcb").tells("count(8)", x -> x.count(8), 3);
        of(ALPHABET).tells("count(8)", x -> x.count(8), 0);
        of("bbb").tells("count(8)", x -> x.count(8), 2);
    }

    /** "classes of factors": of those that end at just the same places, and so not the unlike factors. */
    private static void countClasses() {
        of("bcd").tells("count(3)", x -> x.count(3), 3);
        of("bb").tells("count(3)", x -> x.count(3), 2);
        of("cbb").tells("count(3)", x -> x.count(3), 4);
        of("cbdb").tells("count(3)", x -> x.count(3), 5);
        of("cbdbx").tells("count(3)", x -> x.count(3), 6);
        of("bcdxbcd").tells("count(3)", x -> x.count(3), 7);
        of("abcxbcybc").tells("count(3)", x -> x.count(3), 11);
        of(ALPHABET + ALPHABET.substring(0, 14)).tells("count(3)", x -> x.count(3), 40);
        of("xyz" + "bc" + "w" + "bc").tells("count(3)", x -> x.count(3), 10);
    }

    /** "unlike squares (as factors)": one that stands twice counts once. */
    private static void countUnlikeSquares() {
        of("bc").tells("count(9)", x -> x.count(9), 0);
        of("bbcbb").tells("count(9)", x -> x.count(9), 1);
        of("bbb").tells("count(9)", x -> x.count(9), 1);
        of("bbbb").tells("count(9)", x -> x.count(9), 2);
        of("bcbcb").tells("count(9)", x -> x.count(9), 2);
        of("bcbb").tells("count(9)", x -> x.count(9), 1);
        of("bbcdd").tells("count(9)", x -> x.count(9), 2);
        of("bcbcddcd").tells("count(9)", x -> x.count(9), 2);
    }

    /** "10 for the states in the history": 0 to 4. */
    private static void countStates() {
        BorderRuns x = new BorderRuns();
        int[] states = {1, 2, 3, 4, 4, 4};
        CHECK.due("count(10)", x.count(10), 0);
        for (int want : states) {
            x.add(0);
            CHECK.due("count(10)", x.count(10), want);
        }
        for (int want : new int[] {3, 2, 1, 0, 0}) {
            x.undo();
            CHECK.due("count(10) behind undo()", x.count(10), want);
        }
    }

    /** "11 for the length of the text": 0 to 60. */
    private static void countText() {
        BorderRuns x = new BorderRuns();
        for (int typed = 0; typed <= 60; typed++) {
            CHECK.due("count(11)", x.count(11), typed);
            x.type('(');
        }
        CHECK.due("count(11) behind the 61st type()", x.count(11), 60);
        x.clearText();
        CHECK.due("count(11) behind clearText()", x.count(11), 0);
    }
}
