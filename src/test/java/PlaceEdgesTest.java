/** The sentences of promises 14, 15, 17, 18 and 21 that name a boundary case: each has a test under its words. */
public final class PlaceEdgesTest {
    private static final Check CHECK = new Check("PlaceEdgesTest");
    private static final int[] NEGATIVE = {-1, -2, Integer.MIN_VALUE};
    private static final String SAME = "z".repeat(40);
    private static final String FORTY = "abcdefghijabcdefghijabcdefghijabcdefghiz";

    public static void main(String[] args) {
        atPlace();
        atWhat();
        atChecksInOrder();
        atLetter();
        atRank();
        atRuns();
        atSquares();
        borderLetters();
        borderRank();
        borderWithoutSoMany();
        borderChecksInOrder();
        borderIsShorterAndHasALetter();
        alikePlaces();
        alikeToTheEnd();
        suffixRank();
        suffixWithoutSoMany();
        shorterSuffixComesAhead();
        unlikeLetters();
        unlikeOfNoneAndOfAll();
        CHECK.end();
    }

    private static Scene of(String word) {
        return Scene.of(CHECK, word);
    }

    private static void at(String word, int what, int... want) {
        Scene scene = of(word);
        for (int place = 0; place < want.length; place++) {
            int asked = place;
            scene.tells("at(" + place + ", " + what + ")", x -> x.at(asked, what), want[place]);
        }
        CHECK.due("places that are asked", want.length, word.length());
    }

    // Promise 14

    /** "place: a place"; "UNKNOWN" */
    private static void atPlace() {
        for (int what = 0; what <= 3; what++) {
            int asked = what;
            of("").refuses("at(0, " + what + ")", x -> x.at(0, asked), BorderRuns.UNKNOWN);
            for (int place : new int[] {-1, 3, 4, Integer.MIN_VALUE, Integer.MAX_VALUE}) {
                of("bcd").refuses("at(" + place + ", " + what + ")", x -> x.at(place, asked), BorderRuns.UNKNOWN);
            }
            of(FORTY).refuses("at(40, " + what + ")", x -> x.at(40, asked), BorderRuns.UNKNOWN);
            of(FORTY).refuses("at(-1, " + what + ")", x -> x.at(-1, asked), BorderRuns.UNKNOWN);
        }
        of("bcd").tells("at(0, 0)", x -> x.at(0, 0), 1);
        of("bcd").tells("at(2, 0)", x -> x.at(2, 0), 3);
        of(FORTY).tells("at(39, 0)", x -> x.at(39, 0), 25);
    }

    /** "what: 0 ..., 1 ..., 2 ..., 3 ..."; "BAD_VALUE" */
    private static void atWhat() {
        for (int what : new int[] {-1, 4, Integer.MIN_VALUE, Integer.MAX_VALUE}) {
            of("bcd").refuses("at(0, " + what + ")", x -> x.at(0, what), BorderRuns.BAD_VALUE);
            of(FORTY).refuses("at(39, " + what + ")", x -> x.at(39, what), BorderRuns.BAD_VALUE);
        }
        int[] want = {25, 39, 0, 0};
        for (int what = 0; what <= 3; what++) {
            int asked = what;
            of(FORTY).tells("at(39, " + what + ")", x -> x.at(39, asked), want[what]);
        }
    }

    /** "UNKNOWN; BAD_VALUE": if neither the place nor what is there, the place is told. */
    private static void atChecksInOrder() {
        for (int what : new int[] {-1, 4}) {
            of("").refuses("at(0, " + what + ")", x -> x.at(0, what), BorderRuns.UNKNOWN);
            of("bcd").refuses("at(3, " + what + ")", x -> x.at(3, what), BorderRuns.UNKNOWN);
            of("bcd").refuses("at(-1, " + what + ")", x -> x.at(-1, what), BorderRuns.UNKNOWN);
        }
    }

    /** "letters from a (0) to z (25)" */
    private static void atLetter() {
        at("az", 0, 0, 25);
    }

    /** "the rank of the suffix that goes from there, from 0": the last one is one less than the letters. */
    private static void atRank() {
        at("b", 1, 0);
        at("bb", 1, 1, 0);
        at("bcb", 1, 1, 2, 0);
        at("bcdb", 1, 1, 2, 3, 0);
        of(SAME).tells("at(0, 1)", x -> x.at(0, 1), 39);
        of(SAME).tells("at(39, 1)", x -> x.at(39, 1), 0);
    }

    /** "how many runs have this place": from the first place of a run to its last letter, not the place behind it. */
    private static void atRuns() {
        at("b", 2, 0);
        at("bb", 2, 1, 1);
        at("bccd", 2, 0, 1, 1, 0);
        at("bbcc", 2, 1, 1, 1, 1);
        at("bbcbbcbb", 2, 2, 2, 1, 2, 2, 1, 2, 2);
        of(SAME).tells("at(0, 2)", x -> x.at(0, 2), 1);
        of(SAME).tells("at(39, 2)", x -> x.at(39, 2), 1);
    }

    /** "how many squares end at the place behind it" */
    private static void atSquares() {
        at("b", 3, 0);
        at("bb", 3, 0, 1);
        at("bcbc", 3, 0, 0, 0, 1);
        at("bbbbb", 3, 0, 1, 1, 2, 2);
        at("bcbcb", 3, 0, 0, 0, 1, 1);
        of(SAME).tells("at(39, 3)", x -> x.at(39, 3), 20);
        of(SAME).tells("at(38, 3)", x -> x.at(38, 3), 19);
        of("abcdefghijklmnopqrst".repeat(2)).tells("at(39, 3)", x -> x.at(39, 3), 1);
        of("abcdefghijklmnopqrst".repeat(2)).tells("at(38, 3)", x -> x.at(38, 3), 0);
    }

    // Promise 15

    /** "letters: 1 to the length of the word"; "UNKNOWN" */
    private static void borderLetters() {
        for (int letters : new int[] {0, -1, 4, Integer.MIN_VALUE, Integer.MAX_VALUE}) {
            of("bbb").refuses("border(" + letters + ", 0)", x -> x.border(letters, 0), BorderRuns.UNKNOWN);
        }
        of("").refuses("border(0, 0)", x -> x.border(0, 0), BorderRuns.UNKNOWN);
        of("").refuses("border(1, 0)", x -> x.border(1, 0), BorderRuns.UNKNOWN);
        of(SAME).refuses("border(41, 0)", x -> x.border(41, 0), BorderRuns.UNKNOWN);
        of("bbb").refuses("border(1, 0)", x -> x.border(1, 0), BorderRuns.NONE);
        of("bbb").tells("border(2, 0)", x -> x.border(2, 0), 1);
        of("bbb").tells("border(3, 0)", x -> x.border(3, 0), 2);
        of(SAME).tells("border(40, 0)", x -> x.border(40, 0), 39);
        of(FORTY).tells("border(39, 0)", x -> x.border(39, 0), 29);
        of(FORTY).refuses("border(40, 0)", x -> x.border(40, 0), BorderRuns.NONE);
    }

    /** "rank: a rank, from 0"; "BAD_VALUE if rank is negative" */
    private static void borderRank() {
        for (int rank : NEGATIVE) {
            of("bbb").refuses("border(3, " + rank + ")", x -> x.border(3, rank), BorderRuns.BAD_VALUE);
            of("bbb").refuses("border(1, " + rank + ")", x -> x.border(1, rank), BorderRuns.BAD_VALUE);
            of("bcd").refuses("border(3, " + rank + ")", x -> x.border(3, rank), BorderRuns.BAD_VALUE);
        }
        int[] borders = {5, 2, 1};
        for (int rank = 0; rank < borders.length; rank++) {
            int asked = rank;
            of("bbcbbcbbx").tells("border(8, " + rank + ")", x -> x.border(8, asked), borders[rank]);
        }
    }

    /** "NONE if there are not so many" */
    private static void borderWithoutSoMany() {
        of("bbcbbcbb").refuses("border(8, 3)", x -> x.border(8, 3), BorderRuns.NONE);
        of("b").refuses("border(1, 0)", x -> x.border(1, 0), BorderRuns.NONE);
        of("bc").refuses("border(2, 0)", x -> x.border(2, 0), BorderRuns.NONE);
        of("bcb").tells("border(3, 0)", x -> x.border(3, 0), 1);
        of("bcb").refuses("border(3, 1)", x -> x.border(3, 1), BorderRuns.NONE);
        of("bcb").refuses("border(3, most)", x -> x.border(3, Integer.MAX_VALUE), BorderRuns.NONE);
        of(SAME).tells("border(40, 38)", x -> x.border(40, 38), 1);
        of(SAME).refuses("border(40, 39)", x -> x.border(40, 39), BorderRuns.NONE);
        of(SAME).refuses("border(39, 38)", x -> x.border(39, 38), BorderRuns.NONE);
    }

    /** "UNKNOWN; BAD_VALUE" */
    private static void borderChecksInOrder() {
        for (int rank : NEGATIVE) {
            of("").refuses("border(1, " + rank + ")", x -> x.border(1, rank), BorderRuns.UNKNOWN);
            of("bbb").refuses("border(0, " + rank + ")", x -> x.border(0, rank), BorderRuns.UNKNOWN);
            of("bbb").refuses("border(4, " + rank + ")", x -> x.border(4, rank), BorderRuns.UNKNOWN);
        }
        of("bbb").refuses("border(4, most)", x -> x.border(4, Integer.MAX_VALUE), BorderRuns.UNKNOWN);
    }

    /** "a shorter one, of a letter at least": neither the letters themselves nor the empty one. */
    private static void borderIsShorterAndHasALetter() {
        of("bb").tells("border(2, 0)", x -> x.border(2, 0), 1);
        of("bb").refuses("border(2, 1)", x -> x.border(2, 1), BorderRuns.NONE);
        of("bcbcx").tells("border(4, 0)", x -> x.border(4, 0), 2);
        of("bcbcx").refuses("border(4, 1)", x -> x.border(4, 1), BorderRuns.NONE);
        of("bcbcx").refuses("border(5, 0)", x -> x.border(5, 0), BorderRuns.NONE);
    }

    // Promise 17

    /** "one: a place"; "other: a place"; "UNKNOWN" */
    private static void alikePlaces() {
        for (int place : new int[] {-1, 3, 4, Integer.MIN_VALUE, Integer.MAX_VALUE}) {
            of("bbb").refuses("alike(" + place + ", 0)", x -> x.alike(place, 0), BorderRuns.UNKNOWN);
            of("bbb").refuses("alike(2, " + place + ")", x -> x.alike(2, place), BorderRuns.UNKNOWN);
            of("bbb").refuses("alike(" + place + ", " + place + ")", x -> x.alike(place, place), BorderRuns.UNKNOWN);
        }
        of("").refuses("alike(0, 0)", x -> x.alike(0, 0), BorderRuns.UNKNOWN);
        of(SAME).refuses("alike(39, 40)", x -> x.alike(39, 40), BorderRuns.UNKNOWN);
        of(SAME).refuses("alike(40, 39)", x -> x.alike(40, 39), BorderRuns.UNKNOWN);
        of(SAME).tells("alike(39, 0)", x -> x.alike(39, 0), 1);
        of(SAME).tells("alike(0, 39)", x -> x.alike(0, 39), 1);
    }

    /** The suffixes end with the word: so many letters they begin with alike at most; a place with itself, all. */
    private static void alikeToTheEnd() {
        of("b").tells("alike(0, 0)", x -> x.alike(0, 0), 1);
        of("bcd").tells("alike(0, 0)", x -> x.alike(0, 0), 3);
        of("bcd").tells("alike(2, 2)", x -> x.alike(2, 2), 1);
        of("bcd").tells("alike(0, 2)", x -> x.alike(0, 2), 0);
        of("bcbc").tells("alike(0, 2)", x -> x.alike(0, 2), 2);
        of("bcbc").tells("alike(2, 0)", x -> x.alike(2, 0), 2);
        of("bcbd").tells("alike(0, 2)", x -> x.alike(0, 2), 1);
        of(SAME).tells("alike(0, 0)", x -> x.alike(0, 0), 40);
        of(SAME).tells("alike(0, 1)", x -> x.alike(0, 1), 39);
    }

    // Promise 18

    /** "rank: a rank, from 0"; "BAD_VALUE if rank is negative" */
    private static void suffixRank() {
        for (int rank : NEGATIVE) {
            of("").refuses("suffix(" + rank + ")", x -> x.suffix(rank), BorderRuns.BAD_VALUE);
            of("bcd").refuses("suffix(" + rank + ")", x -> x.suffix(rank), BorderRuns.BAD_VALUE);
            of(SAME).refuses("suffix(" + rank + ")", x -> x.suffix(rank), BorderRuns.BAD_VALUE);
        }
        of("b").tells("suffix(0)", x -> x.suffix(0), 0);
        of("dbc").tells("suffix(0)", x -> x.suffix(0), 1);
        of("dbc").tells("suffix(2)", x -> x.suffix(2), 0);
        of(SAME).tells("suffix(39)", x -> x.suffix(39), 0);
    }

    /** "NONE if there are not so many" */
    private static void suffixWithoutSoMany() {
        of("").refuses("suffix(0)", x -> x.suffix(0), BorderRuns.NONE);
        of("b").refuses("suffix(1)", x -> x.suffix(1), BorderRuns.NONE);
        of("dbc").refuses("suffix(3)", x -> x.suffix(3), BorderRuns.NONE);
        of("dbc").refuses("suffix(most)", x -> x.suffix(Integer.MAX_VALUE), BorderRuns.NONE);
        of(SAME).refuses("suffix(40)", x -> x.suffix(40), BorderRuns.NONE);
    }

    /** "a word comes ahead of each longer one that begins with it" */
    private static void shorterSuffixComesAhead() {
        int[] places = {4, 2, 0, 3, 1};
        for (int rank = 0; rank < places.length; rank++) {
            int asked = rank;
            of("bcbcb").tells("suffix(" + rank + ")", x -> x.suffix(asked), places[rank]);
        }
        of("bb").tells("suffix(0)", x -> x.suffix(0), 1);
        of("aa").tells("suffix(0)", x -> x.suffix(0), 1);
        of("zz").tells("suffix(0)", x -> x.suffix(0), 1);
        of(SAME).tells("suffix(0)", x -> x.suffix(0), 39);
    }

    // Promise 21

    /** "letters: 0 to the length of the word"; "UNKNOWN" */
    private static void unlikeLetters() {
        for (int letters : new int[] {-1, 4, Integer.MIN_VALUE, Integer.MAX_VALUE}) {
            of("bcb").refuses("unlike(" + letters + ")", x -> x.unlike(letters), BorderRuns.UNKNOWN);
        }
        of("").refuses("unlike(1)", x -> x.unlike(1), BorderRuns.UNKNOWN);
        of("").refuses("unlike(-1)", x -> x.unlike(-1), BorderRuns.UNKNOWN);
        of(SAME).refuses("unlike(41)", x -> x.unlike(41), BorderRuns.UNKNOWN);
        of("bcb").tells("unlike(1)", x -> x.unlike(1), 1);
        of("bcb").tells("unlike(2)", x -> x.unlike(2), 3);
        of("bcb").tells("unlike(3)", x -> x.unlike(3), 5);
        of(SAME).tells("unlike(40)", x -> x.unlike(40), 40);
        of(SAME).tells("unlike(39)", x -> x.unlike(39), 39);
    }

    private static void unlikeOfNoneAndOfAll() {
        of("").tells("unlike(0)", x -> x.unlike(0), 0);
        of("bcb").tells("unlike(0)", x -> x.unlike(0), 0);
        of(SAME).tells("unlike(0)", x -> x.unlike(0), 0);
        String unlike = "abcdefghijklmnopqrstuvwxyz";
        of(unlike).tells("unlike(26)", x -> x.unlike(26), 351);
        of(unlike + unlike.substring(0, 14)).tells("unlike(40)", x -> x.unlike(40), 820 - 14 * 15 / 2);
    }
}
