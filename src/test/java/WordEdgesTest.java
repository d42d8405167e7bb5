/** The sentences of promises 1 to 7 that name a boundary case: each has a test of its own, under its words. */
public final class WordEdgesTest {
    private static final Check CHECK = new Check("WordEdgesTest");
    private static final int[] BAD_LETTERS = {-1, 26, Integer.MIN_VALUE, Integer.MAX_VALUE};
    private static final String FORTY = "abcdefghijabcdefghijabcdefghijabcdefghiz";
    private static final String THIRTY_NINE = FORTY.substring(0, 39);

    public static void main(String[] args) {
        newObjectIsEmptyInEveryPart();
        newObjectKnowsNoPlaceAndNoFactor();
        newObjectTellsOfTheEmptyWord();
        objectsShareNothing();
        addLetter();
        addTellsTheBorder();
        addWhenFull();
        addChecksInOrder();
        addRecords();
        dropMany();
        dropMoreThanThereAre();
        dropAll();
        dropChecksInOrder();
        changePlace();
        changeLetter();
        changeToTheSame();
        changeChecksInOrder();
        reverseTellsTheLength();
        reverseThatStaysTheSame();
        turnMany();
        turnAsManyAsThereAre();
        turnThatStaysTheSame();
        turnChecksInOrder();
        foldNoFactor();
        foldWhenFull();
        foldChecksInOrder();
        foldRecords();
        CHECK.end();
    }

    private static Scene of(String word) {
        return Scene.of(CHECK, word);
    }

    // Promise 1

    /** "Creates an empty word"; the text, the snapshot and the history are empty at first. */
    private static void newObjectIsEmptyInEveryPart() {
        Scene made = Scene.made(CHECK);
        for (int what = 0; what <= 11; what++) {
            int asked = what;
            made.tells("count(" + what + ")", x -> x.count(asked), 0);
        }
        made.refuses("undo()", BorderRuns::undo, BorderRuns.NONE);
        made.refuses("restore()", BorderRuns::restore, BorderRuns.NONE);
        made.refuses("load()", BorderRuns::load, -100);
        made.tells("clearText()", BorderRuns::clearText, 0);
        made.keeps("keep()", BorderRuns::keep, 0, "");
        made.refuses("reverse()", BorderRuns::reverse, BorderRuns.NONE);
    }

    /** The empty word has no place, no first letters but none, and no factor. */
    private static void newObjectKnowsNoPlaceAndNoFactor() {
        Scene made = Scene.made(CHECK);
        made.refuses("change(0, 0)", x -> x.change(0, 0), BorderRuns.UNKNOWN);
        made.refuses("drop(1)", x -> x.drop(1), BorderRuns.UNKNOWN);
        made.refuses("turn(1)", x -> x.turn(1), BorderRuns.UNKNOWN);
        made.refuses("fold(0, 1)", x -> x.fold(0, 1), BorderRuns.UNKNOWN);
        made.refuses("fold(0, 0)", x -> x.fold(0, 0), BorderRuns.UNKNOWN);
        made.refuses("at(0, 0)", x -> x.at(0, 0), BorderRuns.UNKNOWN);
        made.refuses("border(0, 0)", x -> x.border(0, 0), BorderRuns.UNKNOWN);
        made.refuses("border(1, 0)", x -> x.border(1, 0), BorderRuns.UNKNOWN);
        made.refuses("factor(0, 0, 0)", x -> x.factor(0, 0, 0), BorderRuns.UNKNOWN);
        made.refuses("factor(0, 1, 0)", x -> x.factor(0, 1, 0), BorderRuns.UNKNOWN);
        made.refuses("alike(0, 0)", x -> x.alike(0, 0), BorderRuns.UNKNOWN);
        made.refuses("unlike(1)", x -> x.unlike(1), BorderRuns.UNKNOWN);
    }

    private static void newObjectTellsOfTheEmptyWord() {
        Scene made = Scene.made(CHECK);
        made.tells("unlike(0)", x -> x.unlike(0), 0);
        made.refuses("suffix(0)", x -> x.suffix(0), BorderRuns.NONE);
        made.refuses("square(0, 0)", x -> x.square(0, 0), BorderRuns.NONE);
        made.refuses("run(0, 0)", x -> x.run(0, 0), BorderRuns.NONE);
        int[] brought = {0, 1, 0, 0};
        for (int what = 0; what <= 3; what++) {
            int asked = what;
            made.tells("ifLetter(0, " + what + ")", x -> x.ifLetter(0, asked), brought[what]);
            made.tells("ifLetter(25, " + what + ")", x -> x.ifLetter(25, asked), brought[what]);
            made.tells("bestLetter(" + what + ")", x -> x.bestLetter(asked), 0);
        }
    }

    private static void objectsShareNothing() {
        BorderRuns other = new BorderRuns();
        other.add(4);
        other.keep();
        other.type('e');
        Scene.made(CHECK).tells("count(0)", x -> x.count(0), 0);
        BorderRuns third = Check.of("fgh");
        third.keep();
        Check.typeInto(third, "ij");
        CHECK.dueWord("what another object does", other, "e");
        CHECK.due("its undo()", other.undo(), 0);
        CHECK.due("its restore()", other.restore(), 1);
        CHECK.dueWord("its restore()", other, "e");
        CHECK.due("its load()", other.load(), 1);
        CHECK.dueWord("its load()", other, "e");
    }

    // Promise 2

    /** "letter: 0 to 25" */
    private static void addLetter() {
        for (int letter : BAD_LETTERS) {
            of("").refuses("add(" + letter + ")", x -> x.add(letter), BorderRuns.BAD_VALUE);
            of("bcd").refuses("add(" + letter + ")", x -> x.add(letter), BorderRuns.BAD_VALUE);
        }
        of("").acts("add(0)", x -> x.add(0), 0, "a");
        of("").acts("add(25)", x -> x.add(25), 0, "z");
        of("bcd").acts("add(0)", x -> x.add(0), 0, "bcda");
        of("bcd").acts("add(25)", x -> x.add(25), 0, "bcdz");
    }

    /** "Returns the longest border of the word then, 0 without one": shorter than the word, of a letter at least. */
    private static void addTellsTheBorder() {
        of("").acts("add(1)", x -> x.add(1), 0, "b");
        of("b").acts("add(1)", x -> x.add(1), 1, "bb");
        of("b").acts("add(2)", x -> x.add(2), 0, "bc");
        of("bcb").acts("add(2)", x -> x.add(2), 2, "bcbc");
        of("bcbcx").acts("add(1)", x -> x.add(1), 1, "bcbcxb");
        of("b".repeat(39)).acts("add(1)", x -> x.add(1), 39, "b".repeat(40));
        of(THIRTY_NINE).acts("add(9)", x -> x.add(9), 30, THIRTY_NINE + "j");
    }

    /** "FULL if it has 40" */
    private static void addWhenFull() {
        of(THIRTY_NINE).acts("add(25)", x -> x.add(25), 0, FORTY);
        of(FORTY).refuses("add(0)", x -> x.add(0), BorderRuns.FULL);
        of(FORTY).refuses("add(25)", x -> x.add(25), BorderRuns.FULL);
    }

    /** "BAD_VALUE; FULL": a wrong letter is told even if there is no room. */
    private static void addChecksInOrder() {
        for (int letter : BAD_LETTERS) {
            of(FORTY).refuses("add(" + letter + ")", x -> x.add(letter), BorderRuns.BAD_VALUE);
        }
    }

    /** "This is an act": the state before it is recorded, also the first one of a new object. */
    private static void addRecords() {
        Scene made = Scene.made(CHECK);
        made.leaves("add(3)", x -> x.add(3), 0, "d", "");
        made.refuses("add(26)", x -> x.add(26), BorderRuns.BAD_VALUE);
    }

    // Promise 3

    /** "many: 1 to 40" */
    private static void dropMany() {
        for (int many : new int[] {0, -1, 41, Integer.MIN_VALUE, Integer.MAX_VALUE}) {
            of("bcd").refuses("drop(" + many + ")", x -> x.drop(many), BorderRuns.BAD_VALUE);
            of(FORTY).refuses("drop(" + many + ")", x -> x.drop(many), BorderRuns.BAD_VALUE);
        }
        of("bcd").acts("drop(1)", x -> x.drop(1), 2, "bc");
        of(FORTY).acts("drop(1)", x -> x.drop(1), 39, THIRTY_NINE);
        of(FORTY).acts("drop(39)", x -> x.drop(39), 1, "a");
        of(FORTY).acts("drop(40)", x -> x.drop(40), 0, "");
    }

    /** "UNKNOWN if the word has fewer" */
    private static void dropMoreThanThereAre() {
        of("").refuses("drop(1)", x -> x.drop(1), BorderRuns.UNKNOWN);
        of("b").refuses("drop(2)", x -> x.drop(2), BorderRuns.UNKNOWN);
        of("bcd").refuses("drop(4)", x -> x.drop(4), BorderRuns.UNKNOWN);
        of(THIRTY_NINE).refuses("drop(40)", x -> x.drop(40), BorderRuns.UNKNOWN);
    }

    /** "Returns how many are left": 0 if all are taken away. */
    private static void dropAll() {
        of("b").acts("drop(1)", x -> x.drop(1), 0, "");
        of("bcd").acts("drop(2)", x -> x.drop(2), 1, "b");
        of("bcd").acts("drop(3)", x -> x.drop(3), 0, "");
        of(THIRTY_NINE).acts("drop(39)", x -> x.drop(39), 0, "");
    }

    /** "BAD_VALUE; UNKNOWN": 41 is out of range ahead of being too many. */
    private static void dropChecksInOrder() {
        of("").refuses("drop(41)", x -> x.drop(41), BorderRuns.BAD_VALUE);
        of("").refuses("drop(0)", x -> x.drop(0), BorderRuns.BAD_VALUE);
        of("").refuses("drop(40)", x -> x.drop(40), BorderRuns.UNKNOWN);
    }

    // Promise 4

    /** "place: a place"; "UNKNOWN" */
    private static void changePlace() {
        for (int place : new int[] {-1, 3, Integer.MIN_VALUE, Integer.MAX_VALUE}) {
            of("bcd").refuses("change(" + place + ", 0)", x -> x.change(place, 0), BorderRuns.UNKNOWN);
        }
        of("").refuses("change(0, 0)", x -> x.change(0, 0), BorderRuns.UNKNOWN);
        of("bcd").acts("change(0, 4)", x -> x.change(0, 4), 1, "ecd");
        of("bcd").acts("change(1, 4)", x -> x.change(1, 4), 2, "bed");
        of("bcd").acts("change(2, 4)", x -> x.change(2, 4), 3, "bce");
        of("b").acts("change(0, 0)", x -> x.change(0, 0), 1, "a");
        of(FORTY).acts("change(39, 0)", x -> x.change(39, 0), 25, THIRTY_NINE + "a");
        of(FORTY).refuses("change(40, 0)", x -> x.change(40, 0), BorderRuns.UNKNOWN);
    }

    /** "letter: 0 to 25"; "Returns the previous one; UNKNOWN; BAD_VALUE" */
    private static void changeLetter() {
        for (int letter : BAD_LETTERS) {
            of("bcd").refuses("change(0, " + letter + ")", x -> x.change(0, letter), BorderRuns.BAD_VALUE);
            of("bcd").refuses("change(2, " + letter + ")", x -> x.change(2, letter), BorderRuns.BAD_VALUE);
        }
        of("az").acts("change(0, 25)", x -> x.change(0, 25), 0, "zz");
        of("az").acts("change(1, 0)", x -> x.change(1, 0), 25, "aa");
    }

    /** "NONE if it is so already" */
    private static void changeToTheSame() {
        of("az").refuses("change(0, 0)", x -> x.change(0, 0), BorderRuns.NONE);
        of("az").refuses("change(1, 25)", x -> x.change(1, 25), BorderRuns.NONE);
        of(FORTY).refuses("change(39, 25)", x -> x.change(39, 25), BorderRuns.NONE);
    }

    /** "UNKNOWN; BAD_VALUE": if neither the place nor the letter is there, the place is told. */
    private static void changeChecksInOrder() {
        for (int letter : BAD_LETTERS) {
            of("").refuses("change(0, " + letter + ")", x -> x.change(0, letter), BorderRuns.UNKNOWN);
            of("bcd").refuses("change(-1, " + letter + ")", x -> x.change(-1, letter), BorderRuns.UNKNOWN);
            of("bcd").refuses("change(3, " + letter + ")", x -> x.change(3, letter), BorderRuns.UNKNOWN);
        }
    }

    // Promise 5

    /** "Returns its length" */
    private static void reverseTellsTheLength() {
        of("bc").acts("reverse()", BorderRuns::reverse, 2, "cb");
        of("bccd").acts("reverse()", BorderRuns::reverse, 4, "dccb");
        of("bcdeb").acts("reverse()", BorderRuns::reverse, 5, "bedcb");
        of(FORTY).acts("reverse()", BorderRuns::reverse, 40, new StringBuilder(FORTY).reverse().toString());
    }

    /** "NONE if it stays the same" */
    private static void reverseThatStaysTheSame() {
        String half = FORTY.substring(0, 20);
        String[] words = {"", "b", "bb", "bcb", "bccb", half + new StringBuilder(half).reverse()};
        for (String word : words) {
            of(word).refuses("reverse()", BorderRuns::reverse, BorderRuns.NONE);
        }
    }

    // Promise 6

    /** "many: 1 to 39: how many"; "Returns its first letter then" */
    private static void turnMany() {
        for (int many : new int[] {0, -1, 40, 41, Integer.MIN_VALUE, Integer.MAX_VALUE}) {
            of("bcd").refuses("turn(" + many + ")", x -> x.turn(many), BorderRuns.BAD_VALUE);
            of(FORTY).refuses("turn(" + many + ")", x -> x.turn(many), BorderRuns.BAD_VALUE);
        }
        of("bcd").acts("turn(1)", x -> x.turn(1), 2, "cdb");
        of("bca").acts("turn(2)", x -> x.turn(2), 0, "abc");
        of(FORTY).acts("turn(1)", x -> x.turn(1), 1, FORTY.substring(1) + "a");
        of(FORTY).acts("turn(39)", x -> x.turn(39), 25, "z" + THIRTY_NINE);
    }

    /** "UNKNOWN if the word has not more letters than that" */
    private static void turnAsManyAsThereAre() {
        of("").refuses("turn(1)", x -> x.turn(1), BorderRuns.UNKNOWN);
        of("b").refuses("turn(1)", x -> x.turn(1), BorderRuns.UNKNOWN);
        of("bcd").refuses("turn(3)", x -> x.turn(3), BorderRuns.UNKNOWN);
        of("bcd").refuses("turn(4)", x -> x.turn(4), BorderRuns.UNKNOWN);
        of(THIRTY_NINE).refuses("turn(39)", x -> x.turn(39), BorderRuns.UNKNOWN);
        of(THIRTY_NINE).acts("turn(38)", x -> x.turn(38), 8, "i" + FORTY.substring(0, 38));
    }

    /** "NONE if it stays the same" */
    private static void turnThatStaysTheSame() {
        of("bb").refuses("turn(1)", x -> x.turn(1), BorderRuns.NONE);
        of("bcbc").refuses("turn(2)", x -> x.turn(2), BorderRuns.NONE);
        of("bcbc").acts("turn(1)", x -> x.turn(1), 2, "cbcb");
        of("bcbc").acts("turn(3)", x -> x.turn(3), 2, "cbcb");
        of("z".repeat(40)).refuses("turn(39)", x -> x.turn(39), BorderRuns.NONE);
        of("bcbcb").acts("turn(2)", x -> x.turn(2), 1, "bcbbc");
    }

    /** "BAD_VALUE; UNKNOWN; NONE": to turn all letters leaves the word as it is, but UNKNOWN is told. */
    private static void turnChecksInOrder() {
        of("").refuses("turn(0)", x -> x.turn(0), BorderRuns.BAD_VALUE);
        of("").refuses("turn(40)", x -> x.turn(40), BorderRuns.BAD_VALUE);
        of("").refuses("turn(39)", x -> x.turn(39), BorderRuns.UNKNOWN);
        of("bb").refuses("turn(2)", x -> x.turn(2), BorderRuns.UNKNOWN);
        of("z".repeat(40)).refuses("turn(40)", x -> x.turn(40), BorderRuns.BAD_VALUE);
    }

    // Promise 7

    /** "UNKNOWN if there is no such factor": it has a letter at least, and stands in the word. */
    private static void foldNoFactor() {
        int[][] places = {{-1, 1}, {-1, 3}, {0, 0}, {1, 1}, {3, 3}, {2, 1}, {3, 2}, {0, 4}, {2, 4}, {3, 4}, {0, -1},
            {Integer.MIN_VALUE, Integer.MAX_VALUE}, {Integer.MAX_VALUE, Integer.MIN_VALUE}, {0, Integer.MAX_VALUE},
            {Integer.MIN_VALUE, 1}, {2, Integer.MIN_VALUE + 1}, {Integer.MAX_VALUE, Integer.MIN_VALUE + 2}};
        for (int[] place : places) {
            String call = "fold(" + place[0] + ", " + place[1] + ")";
            of("bcd").refuses(call, x -> x.fold(place[0], place[1]), BorderRuns.UNKNOWN);
        }
        of("").refuses("fold(0, 1)", x -> x.fold(0, 1), BorderRuns.UNKNOWN);
        of("").refuses("fold(0, 0)", x -> x.fold(0, 0), BorderRuns.UNKNOWN);
        of("b").acts("fold(0, 1)", x -> x.fold(0, 1), 2, "bb");
        of("bcd").acts("fold(0, 1)", x -> x.fold(0, 1), 4, "bcdb");
        of("bcd").acts("fold(2, 3)", x -> x.fold(2, 3), 4, "bcdd");
        of("bcd").acts("fold(0, 3)", x -> x.fold(0, 3), 6, "bcdbcd");
    }

    /** "FULL if it would have more than 40" */
    private static void foldWhenFull() {
        String twenty = FORTY.substring(0, 20);
        String twentyOne = FORTY.substring(0, 21);
        of(THIRTY_NINE).acts("fold(38, 39)", x -> x.fold(38, 39), 40, THIRTY_NINE + "i");
        of(THIRTY_NINE).refuses("fold(37, 39)", x -> x.fold(37, 39), BorderRuns.FULL);
        of(FORTY).refuses("fold(39, 40)", x -> x.fold(39, 40), BorderRuns.FULL);
        of(FORTY).refuses("fold(0, 40)", x -> x.fold(0, 40), BorderRuns.FULL);
        of(twenty).acts("fold(0, 20)", x -> x.fold(0, 20), 40, twenty + twenty);
        of(twentyOne).acts("fold(2, 21)", x -> x.fold(2, 21), 40, twentyOne + twentyOne.substring(2));
        of(twentyOne).refuses("fold(1, 21)", x -> x.fold(1, 21), BorderRuns.FULL);
    }

    /** "UNKNOWN; FULL": a factor that is not there is told even if there is no room. */
    private static void foldChecksInOrder() {
        of(FORTY).refuses("fold(0, 41)", x -> x.fold(0, 41), BorderRuns.UNKNOWN);
        of(FORTY).refuses("fold(40, 41)", x -> x.fold(40, 41), BorderRuns.UNKNOWN);
        of(FORTY).refuses("fold(-1, 40)", x -> x.fold(-1, 40), BorderRuns.UNKNOWN);
        of(FORTY).refuses("fold(7, 7)", x -> x.fold(7, 7), BorderRuns.UNKNOWN);
        of(THIRTY_NINE).refuses("fold(0, 40)", x -> x.fold(0, 40), BorderRuns.UNKNOWN);
    }

    /** "Adds a factor behind the word once more": of the word as it stands, also behind an undo() or a drop(). */
    private static void foldRecords() {
        Scene undone = new Scene(CHECK, "'bcd' behind undo()", x -> {
            Scene.addAll(x, "bcdz");
            x.undo();
        });
        undone.leaves("fold(2, 3)", x -> x.fold(2, 3), 4, "bcdd", "bcd", "bc", "b", "");
        undone.refuses("fold(3, 4)", x -> x.fold(3, 4), BorderRuns.UNKNOWN);
        Scene dropped = new Scene(CHECK, "'bc' behind drop(2)", x -> {
            Scene.addAll(x, "bcyz");
            x.drop(2);
        });
        dropped.acts("fold(0, 2)", x -> x.fold(0, 2), 4, "bcbc");
        dropped.refuses("fold(1, 3)", x -> x.fold(1, 3), BorderRuns.UNKNOWN);
    }
}
