/** The sentences of promise 16, and of the terms it stands on, that name a boundary case: each has a test under its words. */
public final class FactorEdgesTest {
    private static final Check CHECK = new Check("FactorEdgesTest");
    private static final String SAME = "z".repeat(40);
    private static final String FORTY = "abcdefghijabcdefghijabcdefghijabcdefghiz";

    public static void main(String[] args) {
        noSuchFactor();
        leastAndGreatestFactors();
        what();
        checksInOrder();
        overlappingPlaces();
        firstAndLastEnd();
        neighbouringEnds();
        classOfOneFactor();
        classOfManyFactors();
        classUpToTheEndOfTheWord();
        linkIsTheEmptyOne();
        linkIsNotTheEmptyOne();
        periodIsItsLengthAtMost();
        borderIsNone();
        powersAreTwoTimesOrMore();
        hundredfoldIsRoundedDown();
        CHECK.end();
    }

    private static Scene of(String word) {
        return Scene.of(CHECK, word);
    }

    private static void factor(String word, int from, int to, int what, int want) {
        of(word).tells("factor(" + from + ", " + to + ", " + what + ")", x -> x.factor(from, to, what), want);
    }

    private static void refused(String word, int from, int to, int what, int want) {
        of(word).refuses("factor(" + from + ", " + to + ", " + what + ")", x -> x.factor(from, to, what), want);
    }

    /** "UNKNOWN if there is no such factor": it has a letter at least, and stands in the word. */
    private static void noSuchFactor() {
        int[][] places = {{-1, 1}, {-1, 3}, {0, 0}, {1, 1}, {3, 3}, {2, 1}, {3, 2}, {0, 4}, {2, 4}, {3, 4}, {0, -1},
            {Integer.MIN_VALUE, Integer.MAX_VALUE}, {Integer.MAX_VALUE, Integer.MIN_VALUE}, {0, Integer.MAX_VALUE},
            {Integer.MIN_VALUE, 1}, {2, Integer.MIN_VALUE + 1}, {Integer.MAX_VALUE, Integer.MIN_VALUE + 2}};
        for (int what = 0; what <= 9; what++) {
            for (int[] place : places) {
                CHECK.due("factor(" + place[0] + ", " + place[1] + ", " + what + ") of bcd",
                    Check.of("bcd").factor(place[0], place[1], what), BorderRuns.UNKNOWN);
            }
            refused("", 0, 1, what, BorderRuns.UNKNOWN);
            refused("", 0, 0, what, BorderRuns.UNKNOWN);
            refused("bcd", 0, 4, what, BorderRuns.UNKNOWN);
            refused("bcd", 2, 2, what, BorderRuns.UNKNOWN);
            refused(FORTY, 0, 41, what, BorderRuns.UNKNOWN);
            refused(FORTY, 40, 41, what, BorderRuns.UNKNOWN);
            refused(FORTY, -1, 40, what, BorderRuns.UNKNOWN);
            refused(FORTY, 39, 39, what, BorderRuns.UNKNOWN);
        }
    }

    /** One letter, at the first place and at the last; the whole word, also of 40 letters. */
    private static void leastAndGreatestFactors() {
        int[] only = {1, 1, 1, 1, 1, 0, 1, 0, 1, 100};
        int[] firstOfSame = {40, 1, 40, 1, 1, 0, 1, 0, 1, 100};
        int[] allOfSame = {1, 40, 40, 40, 40, 39, 1, 39, 0, 4000};
        int[] lastOfForty = {1, 40, 40, 40, 1, 0, 1, 0, 1, 100};
        int[] allOfForty = {1, 40, 40, 40, 1, 0, 40, 0, 1, 100};
        for (int what = 0; what <= 9; what++) {
            factor("b", 0, 1, what, only[what]);
            factor(SAME, 0, 1, what, firstOfSame[what]);
            factor(SAME, 39, 40, what, firstOfSame[what]);
            factor(SAME, 0, 40, what, allOfSame[what]);
            factor(FORTY, 39, 40, what, lastOfForty[what]);
            factor(FORTY, 0, 40, what, allOfForty[what]);
        }
    }

    /** "what: 0 ... 9"; "BAD_VALUE" */
    private static void what() {
        for (int what : new int[] {-1, 10, Integer.MIN_VALUE, Integer.MAX_VALUE}) {
            refused("bcd", 0, 1, what, BorderRuns.BAD_VALUE);
            refused("bcd", 0, 3, what, BorderRuns.BAD_VALUE);
            refused(FORTY, 0, 40, what, BorderRuns.BAD_VALUE);
        }
        factor("bcd", 0, 3, 0, 1);
        factor("bcd", 0, 3, 9, 100);
    }

    /** "UNKNOWN if there is no such factor; BAD_VALUE" */
    private static void checksInOrder() {
        for (int what : new int[] {-1, 10}) {
            refused("", 0, 1, what, BorderRuns.UNKNOWN);
            refused("bcd", 0, 4, what, BorderRuns.UNKNOWN);
            refused("bcd", 2, 2, what, BorderRuns.UNKNOWN);
            refused(FORTY, 0, 41, what, BorderRuns.UNKNOWN);
        }
    }

    /** "it can stand at several places, also overlapping" */
    private static void overlappingPlaces() {
        factor("bbb", 0, 2, 0, 2);
        factor("bbb", 1, 3, 0, 2);
        factor("bcbcb", 0, 3, 0, 2);
        factor("bcbcb", 2, 5, 0, 2);
        factor(SAME, 0, 20, 0, 21);
        factor("bcdb", 0, 1, 0, 2);
    }

    /** "the first place at which it ends, 2 for the last one": whichever of its places is told. */
    private static void firstAndLastEnd() {
        for (int from : new int[] {0, 3, 6}) {
            factor("bcdbcdbc", from, from + 2, 1, 2);
            factor("bcdbcdbc", from, from + 2, 2, 8);
        }
        factor("bcd", 1, 2, 1, 2);
        factor("bcd", 1, 2, 2, 2);
        factor(SAME, 39, 40, 1, 1);
        factor(SAME, 0, 1, 2, 40);
    }

    /** Two places that are neighbours: the first one is not the last one. */
    private static void neighbouringEnds() {
        for (int from = 0; from <= 1; from++) {
            factor("bbb", from, from + 2, 1, 2);
            factor("bbb", from, from + 2, 2, 3);
            factor("xbby", from + 1, from + 2, 1, 2);
            factor("xbby", from + 1, from + 2, 2, 3);
        }
    }

    /** "of all lengths from its shortest one on": the same length if there is one alone. */
    private static void classOfOneFactor() {
        factor("bb", 0, 1, 3, 1);
        factor("bb", 0, 1, 4, 1);
        factor("bb", 0, 2, 3, 2);
        factor("bb", 0, 2, 4, 2);
    }

    private static void classOfManyFactors() {
        for (int from = 0; from <= 2; from++) {
            factor("bcd", from, 3, 3, 3);
            factor("bcd", from, 3, 4, 1);
        }
        factor("bcdbcx", 1, 2, 3, 2);
        factor("bcdbcx", 4, 5, 3, 2);
        factor("bcdbcx", 3, 5, 4, 1);
        factor("bcdxbcd", 4, 7, 3, 3);
        factor("bcdxbcd", 3, 7, 3, 7);
        factor("bcdxbcd", 3, 7, 4, 4);
        factor("bcdxbcd", 2, 7, 4, 4);
        factor("bcdxbcd", 0, 7, 4, 4);
        factor("bcdxbcd", 0, 7, 3, 7);
    }

    /** A factor that ends with the word, too, is of another class than one that does not. */
    private static void classUpToTheEndOfTheWord() {
        factor("cbxdb", 1, 2, 3, 1);
        factor("cbxdb", 4, 5, 3, 1);
        factor("cbxdb", 0, 2, 3, 2);
        factor("cbxdb", 0, 2, 4, 2);
        factor("cbxdb", 0, 2, 5, 1);
        factor("cbxdb", 3, 5, 3, 5);
        factor("cbxdb", 3, 5, 4, 2);
        factor("cbxdb", 3, 5, 5, 1);
        factor("bxdb", 0, 1, 3, 1);
        factor("bxdb", 2, 4, 5, 1);
    }

    /** "if that would be without letters, its link is the empty one, with the length 0" */
    private static void linkIsTheEmptyOne() {
        factor("b", 0, 1, 5, 0);
        factor("bcd", 0, 3, 5, 0);
        factor("bcd", 2, 3, 5, 0);
        factor("bcdbcx", 0, 2, 5, 0);
        factor(SAME, 0, 1, 5, 0);
    }

    private static void linkIsNotTheEmptyOne() {
        factor("bb", 0, 2, 5, 1);
        factor("cbb", 0, 3, 5, 1);
        factor("bcdxbcd", 3, 7, 5, 3);
        factor("bcdxbcd", 0, 7, 5, 3);
        factor(SAME, 0, 2, 5, 1);
    }

    /** "a number from 1 to its length": the length of the factor if there is no less one. */
    private static void periodIsItsLengthAtMost() {
        factor("xbcdx", 1, 2, 6, 1);
        factor("xbcdx", 1, 4, 6, 3);
        factor("xbcdx", 0, 5, 6, 4);
        factor("xbbbx", 1, 4, 6, 1);
        factor("bcbcbx", 0, 5, 6, 2);
        factor("bcbcbx", 0, 6, 6, 6);
        factor("bcbbc", 0, 5, 6, 3);
    }

    /** "its longest border (0 without one)": shorter than the factor, of a letter at least. */
    private static void borderIsNone() {
        factor("xbcdx", 1, 2, 7, 0);
        factor("xbcdx", 1, 4, 7, 0);
        factor("xbcdx", 0, 5, 7, 1);
        factor("xbbbx", 1, 4, 7, 2);
        factor("bcbcbx", 0, 5, 7, 3);
        factor("bcbcbx", 0, 6, 7, 0);
    }

    /** "a shorter one two times or more, one behind the other" */
    private static void powersAreTwoTimesOrMore() {
        factor("xbbbx", 1, 2, 8, 1);
        factor("xbbbx", 1, 3, 8, 0);
        factor("xbbbx", 1, 4, 8, 0);
        factor("xbcbcbx", 1, 4, 8, 1);
        factor("xbcbcbx", 1, 5, 8, 0);
        factor("xbcbcbx", 1, 6, 8, 1);
        factor("xbcbcbcx", 1, 7, 8, 0);
        factor("xbcbcbcx", 0, 8, 8, 1);
        factor("bcdbcd", 0, 6, 8, 0);
        factor("bcdbcx", 0, 6, 8, 1);
        factor("abcdefghijklmnopqrst".repeat(2), 0, 40, 8, 0);
        factor("abcdefghijklmnopqrst".repeat(2), 0, 39, 8, 1);
    }

    /** "100 times its length divided by its period, rounded down" */
    private static void hundredfoldIsRoundedDown() {
        factor("bcd", 0, 3, 9, 100);
        factor("bcb", 0, 3, 9, 150);
        factor("bcdb", 0, 4, 9, 133);
        factor("bcdbc", 0, 5, 9, 166);
        factor("bcdbcd", 0, 6, 9, 200);
        factor("bcdefgb", 0, 7, 9, 116);
        factor("z".repeat(40), 0, 40, 9, 4000);
        factor("a" + "z".repeat(38) + "a", 0, 40, 9, 102);
    }
}
