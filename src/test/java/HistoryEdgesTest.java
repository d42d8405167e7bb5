import java.util.ArrayList;
import java.util.List;
import java.util.function.ToIntFunction;

/** The sentences of promises 11 to 13, and of "history", that name a boundary case: each has a test under its words. */
public final class HistoryEdgesTest {
    private static final Check CHECK = new Check("HistoryEdgesTest");
    private static final String FORTY = "abcdefghijabcdefghijabcdefghijabcdefghiz";

    public static void main(String[] args) {
        undoOfNone();
        undoOfEachState();
        undoRemoves();
        oldestIsDropped();
        oldestIsDroppedAgainAndAgain();
        eachActRecords();
        nothingElseRecords();
        whatIsRefusedRecordsNothing();
        undoLeavesTextAndSnapshot();
        undoFromAndToTheLongestWord();
        keepTellsTheLength();
        keepTakesThePlaceOfTheOther();
        keepIsNoAct();
        restoreWithoutASnapshot();
        restoreTellsTheLength();
        restoreOfTheSameIsAnAct();
        restoreLeavesTheSnapshot();
        CHECK.end();
    }

    private static Scene after(String word, int states) {
        Scene scene = new Scene(CHECK, "'" + word + "' with " + states + " states", x -> {
            Scene.addAll(x, word);
            for (int undone = Math.min(4, word.length()); undone > states; undone--) {
                x.undo();
            }
        });
        scene.tells("count(10)", x -> x.count(10), states);
        return scene;
    }

    // Promise 11

    /** "NONE if the history is empty" */
    private static void undoOfNone() {
        after("", 0).refuses("undo()", BorderRuns::undo, BorderRuns.NONE);
        after("bcdef", 0).refuses("undo()", BorderRuns::undo, BorderRuns.NONE);
        BorderRuns x = Check.of("bcdef");
        for (int left = 3; left >= 0; left--) {
            CHECK.due("undo()", x.undo(), left);
        }
        CHECK.dueWord("four times undo()", x, "b");
        CHECK.due("the fifth undo()", x.undo(), BorderRuns.NONE);
        CHECK.due("the sixth undo()", x.undo(), BorderRuns.NONE);
        CHECK.dueWord("six times undo()", x, "b");
        CHECK.due("count(10)", x.count(10), 0);
    }

    /** "Returns the number of states that are left": 0 behind the last one. */
    private static void undoOfEachState() {
        after("b", 1).leaves("undo()", BorderRuns::undo, 0, "");
        after("bc", 2).leaves("undo()", BorderRuns::undo, 1, "b", "");
        after("bcd", 3).leaves("undo()", BorderRuns::undo, 2, "bc", "b", "");
        after("bcde", 4).leaves("undo()", BorderRuns::undo, 3, "bcd", "bc", "b", "");
        after("bcdef", 4).leaves("undo()", BorderRuns::undo, 3, "bcde", "bcd", "bc", "b");
        after("bcdef", 1).leaves("undo()", BorderRuns::undo, 0, "b");
    }

    /** "Removes and restores the latest state": it can't be reached once more, and undo() is no act itself. */
    private static void undoRemoves() {
        after("bcd", 2).leaves("add(24)", x -> x.add(24), 0, "bcy", "bc", "b", "");
        after("bcd", 2).leaves("add(24), undo()", x -> x.add(24) + x.undo(), 2, "bc", "b", "");
        after("bcd", 0).leaves("add(24)", x -> x.add(24), 0, "y", "");
        after("bcdef", 0).leaves("add(24)", x -> x.add(24), 0, "by", "b");
        after("bcdef", 3).leaves("add(24)", x -> x.add(24), 0, "bcdey", "bcde", "bcd", "bc", "b");
    }

    /** "at most 4 states is kept; when one more is recorded, the oldest one is dropped" */
    private static void oldestIsDropped() {
        after("bcd", 3).leaves("add(24)", x -> x.add(24), 0, "bcdy", "bcd", "bc", "b", "");
        after("bcde", 4).leaves("add(24)", x -> x.add(24), 0, "bcdey", "bcde", "bcd", "bc", "b");
        after("bcdef", 4).leaves("add(24)", x -> x.add(24), 0, "bcdefy", "bcdef", "bcde", "bcd", "bc");
    }

    private static void oldestIsDroppedAgainAndAgain() {
        for (int length = 4; length <= 40; length++) {
            String word = FORTY.substring(0, length);
            BorderRuns x = Check.of(word);
            CHECK.due("count(10) behind " + length + " acts", x.count(10), 4);
            for (int back = 1; back <= 4; back++) {
                CHECK.due("undo() behind " + length + " acts", x.undo(), 4 - back);
                CHECK.dueWord("undo() behind " + length + " acts", x, word.substring(0, length - back));
            }
            CHECK.due("the fifth undo() behind " + length + " acts", x.undo(), BorderRuns.NONE);
        }
    }

    /** "Each call of a method that is described as an act ... records the state that was before it." */
    private static void eachActRecords() {
        for (String word : new String[] {"bcd", "bcde", "bcdef"}) {
            Scene scene = Scene.of(CHECK, word);
            int length = word.length();
            int last = word.charAt(length - 1) - 'a';
            scene.acts("add(0)", x -> x.add(0), 0, word + "a");
            scene.acts("drop(1)", x -> x.drop(1), length - 1, word.substring(0, length - 1));
            scene.acts("change(0, 0)", x -> x.change(0, 0), 1, "a" + word.substring(1));
            scene.acts("reverse()", BorderRuns::reverse, length, new StringBuilder(word).reverse().toString());
            scene.acts("turn(" + (length - 1) + ")", x -> x.turn(length - 1), last,
                word.substring(length - 1) + word.substring(0, length - 1));
            scene.acts("fold(0, 2)", x -> x.fold(0, 2), length + 2, word + "bc");
            scene.acts("load()", BorderRuns::load, 4, "abbb");
            scene.acts("restore()", BorderRuns::restore, 2, "sn");
        }
    }

    private static List<ToIntFunction<BorderRuns>> questions() {
        List<ToIntFunction<BorderRuns>> questions = new ArrayList<>();
        questions.add(x -> x.border(3, 0));
        questions.add(x -> x.alike(0, 1));
        questions.add(x -> x.suffix(1));
        questions.add(x -> x.square(0, 1));
        questions.add(x -> x.run(0, 3));
        questions.add(x -> x.unlike(3));
        for (int what = 0; what <= 11; what++) {
            int asked = what;
            questions.add(x -> x.at(1, asked % 4));
            questions.add(x -> x.factor(1, 3, asked % 10));
            questions.add(x -> x.ifLetter(25, asked % 4));
            questions.add(x -> x.bestLetter(asked % 4));
            questions.add(x -> x.count(asked));
        }
        return questions;
    }

    /** Neither keep(), type() and clearText() nor any question is described as an act. */
    private static void nothingElseRecords() {
        Scene scene = Scene.of(CHECK, "bccbcb");
        scene.keeps("keep()", BorderRuns::keep, 6, "bccbcb");
        scene.types("type(d)", x -> x.type('d'), 4, 4, 5);
        scene.types("clearText()", BorderRuns::clearText, 3, 0, -100);
        BorderRuns untouched = Check.of("bccbcb");
        Check.typeInto(untouched, "ab3");
        for (ToIntFunction<BorderRuns> question : questions()) {
            scene.tells("a question", question, question.applyAsInt(untouched));
        }
    }

    /** "and returns no error and not NONE"; "A call that returns an error or NONE changes nothing." */
    private static void whatIsRefusedRecordsNothing() {
        for (int states = 0; states <= 4; states++) {
            Scene scene = after("bbbb", states);
            int length = states;
            scene.refuses("add(26)", x -> x.add(26), BorderRuns.BAD_VALUE);
            scene.refuses("drop(0)", x -> x.drop(0), BorderRuns.BAD_VALUE);
            scene.refuses("drop(" + (length + 1) + ")", x -> x.drop(length + 1), BorderRuns.UNKNOWN);
            scene.refuses("change(-1, 0)", x -> x.change(-1, 0), BorderRuns.UNKNOWN);
            scene.refuses("change(0, 1)", x -> x.change(0, 1), length > 0 ? BorderRuns.NONE : BorderRuns.UNKNOWN);
            scene.refuses("reverse()", BorderRuns::reverse, BorderRuns.NONE);
            scene.refuses("turn(0)", x -> x.turn(0), BorderRuns.BAD_VALUE);
            scene.refuses("turn(1)", x -> x.turn(1), length > 1 ? BorderRuns.NONE : BorderRuns.UNKNOWN);
            scene.refuses("fold(0, 5)", x -> x.fold(0, 5), BorderRuns.UNKNOWN);
            scene.refuses("load()", BorderRuns::load, -100);
            scene.refuses("restore()", BorderRuns::restore, BorderRuns.NONE);
        }
    }

    /** "A state is everything but the text, the history and the snapshot." */
    private static void undoLeavesTextAndSnapshot() {
        BorderRuns x = Check.of("b");
        x.add(2);
        x.keep();
        x.type('q');
        x.type('2');
        CHECK.due("undo()", x.undo(), 1);
        CHECK.due("count(11), the text stays", x.count(11), 2);
        CHECK.due("restore(), the snapshot stays", x.restore(), 2);
        CHECK.dueWord("restore()", x, "bc");
        CHECK.due("load()", x.load(), 2);
        CHECK.dueWord("load()", x, "qq");
    }

    private static void undoFromAndToTheLongestWord() {
        BorderRuns x = Check.of(FORTY);
        CHECK.due("drop(40)", x.drop(40), 0);
        CHECK.due("undo()", x.undo(), 3);
        CHECK.dueWord("undo() of drop(40)", x, FORTY);
        CHECK.due("add(0) of 40", x.add(0), BorderRuns.FULL);
        CHECK.due("undo()", x.undo(), 2);
        CHECK.dueWord("undo() of the 40th letter", x, FORTY.substring(0, 39));
        CHECK.due("add(25)", x.add(25), 0);
        CHECK.dueWord("add(25)", x, FORTY);
    }

    // Promise 12

    /** "Returns the length of the word": 0 of the empty one, which is a snapshot, too. */
    private static void keepTellsTheLength() {
        Scene.of(CHECK, "").keeps("keep()", BorderRuns::keep, 0, "");
        Scene.of(CHECK, "b").keeps("keep()", BorderRuns::keep, 1, "b");
        Scene.of(CHECK, FORTY).keeps("keep()", BorderRuns::keep, 40, FORTY);
        Scene empty = new Scene(CHECK, "'b' with the empty word kept", x -> {
            x.keep();
            x.add(1);
        });
        empty.acts("restore()", BorderRuns::restore, 0, "");
    }

    /** "in place of the one that was" */
    private static void keepTakesThePlaceOfTheOther() {
        BorderRuns x = Check.of("bcd");
        CHECK.due("keep()", x.keep(), 3);
        CHECK.due("drop(2)", x.drop(2), 1);
        CHECK.due("keep() once more", x.keep(), 1);
        CHECK.due("add(25)", x.add(25), 0);
        CHECK.due("restore()", x.restore(), 1);
        CHECK.dueWord("restore()", x, "b");
        CHECK.due("change(0, 2)", x.change(0, 2), 1);
        CHECK.due("restore(), the snapshot is no part of the word", x.restore(), 1);
        CHECK.dueWord("restore()", x, "b");
    }

    /** keep() records nothing, and undo() does not take it back. */
    private static void keepIsNoAct() {
        BorderRuns x = Check.of("bcdef");
        CHECK.due("keep()", x.keep(), 5);
        CHECK.due("count(10), as many as ahead of it", x.count(10), 4);
        CHECK.due("undo()", x.undo(), 3);
        CHECK.dueWord("undo()", x, "bcde");
        CHECK.due("restore()", x.restore(), 5);
        CHECK.dueWord("restore()", x, "bcdef");
    }

    // Promise 13

    /** "NONE if there is no snapshot" */
    private static void restoreWithoutASnapshot() {
        for (int states = 0; states <= 4; states++) {
            after("bcdef", states).refuses("restore()", BorderRuns::restore, BorderRuns.NONE);
        }
        Scene.made(CHECK).refuses("restore()", BorderRuns::restore, BorderRuns.NONE);
    }

    /** "Returns the length of the word then" */
    private static void restoreTellsTheLength() {
        Scene forty = new Scene(CHECK, "the empty word with 40 letters kept", x -> {
            Scene.addAll(x, FORTY);
            x.keep();
            x.drop(40);
        });
        forty.acts("restore()", BorderRuns::restore, 40, FORTY);
        Scene none = new Scene(CHECK, "40 letters with the empty word kept", x -> {
            x.keep();
            Scene.addAll(x, FORTY);
        });
        none.acts("restore()", BorderRuns::restore, 0, "");
    }

    /** "This is an act": it has no NONE for a word that stays the same, and so records a state. */
    private static void restoreOfTheSameIsAnAct() {
        Scene same = new Scene(CHECK, "'b' as it is kept", x -> {
            x.add(1);
            x.keep();
        });
        same.leaves("restore()", BorderRuns::restore, 1, "b", "b", "");
        Scene none = new Scene(CHECK, "the empty word as it is kept", BorderRuns::keep);
        none.leaves("restore()", BorderRuns::restore, 0, "", "");
    }

    /** "the snapshot, which stays": also behind undo(), and once more. */
    private static void restoreLeavesTheSnapshot() {
        Scene scene = Scene.of(CHECK, "bcd");
        scene.leaves("restore() twice", x -> x.restore() * 10 + x.restore(), 22, "sn", "sn", "bcd", "bc", "b");
        scene.leaves("restore(), undo()", x -> x.restore() * 10 + x.undo(), 23, "bcd", "bc", "b", "");
        scene.leaves("restore(), drop(2), restore()", x -> x.restore() * 100 + x.drop(2) * 10 + x.restore(), 202,
            "sn", "", "sn", "bcd", "bc");
    }
}
