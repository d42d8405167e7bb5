/** Promises 1 to 7: a new object, and the acts on the word. */
public final class WordTest {
    private static final Check CHECK = new Check("WordTest");
    private static final String FORTY = "abcdefghijabcdefghijabcdefghijabcdefghij";

    public static void main(String[] args) {
        promise1NewObject();
        promise2Add();
        promise3Drop();
        promise4Change();
        promise5Reverse();
        promise6Turn();
        promise7Fold();
        CHECK.end();
    }

    private static void promise1NewObject() {
        BorderRuns x = new BorderRuns();
        for (int what = 0; what <= 11; what++) {
            CHECK.due("new count(" + what + ")", x.count(what), 0);
        }
        CHECK.due("new undo()", x.undo(), BorderRuns.NONE);
        CHECK.due("new restore()", x.restore(), BorderRuns.NONE);
        CHECK.due("new at(0, 0)", x.at(0, 0), BorderRuns.UNKNOWN);
        CHECK.due("new suffix(0)", x.suffix(0), BorderRuns.NONE);
        CHECK.due("new load()", x.load(), -100);
        BorderRuns other = new BorderRuns();
        x.add(3);
        x.type('a');
        CHECK.due("count(0) of another object", other.count(0), 0);
        CHECK.due("count(11) of another object", other.count(11), 0);
        CHECK.due("UNKNOWN", BorderRuns.UNKNOWN, -1);
        CHECK.due("BAD_VALUE", BorderRuns.BAD_VALUE, -2);
        CHECK.due("FULL", BorderRuns.FULL, -3);
        CHECK.due("NONE", BorderRuns.NONE, -4);
    }

    private static void promise2Add() {
        BorderRuns x = new BorderRuns();
        int[] letters = {0, 1, 0, 0, 1, 0, 2, 25};
        int[] borders = {0, 0, 1, 1, 2, 3, 0, 0};
        for (int i = 0; i < letters.length; i++) {
            CHECK.due("add(" + letters[i] + ")", x.add(letters[i]), borders[i]);
        }
        CHECK.dueWord("adds", x, "abaabacz");
        CHECK.due("add(-1)", x.add(-1), BorderRuns.BAD_VALUE);
        CHECK.due("add(26)", x.add(26), BorderRuns.BAD_VALUE);
        CHECK.due("add(least)", x.add(Integer.MIN_VALUE), BorderRuns.BAD_VALUE);
        CHECK.dueWord("wrong adds", x, "abaabacz");
        BorderRuns y = new BorderRuns();
        for (int i = 0; i < 40; i++) {
            CHECK.due("add(7) behind " + i, y.add(7), Math.max(0, i));
        }
        CHECK.due("41st add", y.add(7), BorderRuns.FULL);
        CHECK.due("41st add, wrong letter", y.add(26), BorderRuns.BAD_VALUE);
        CHECK.due("count(0)", y.count(0), 40);
        CHECK.due("undo()", y.undo(), 3);
        CHECK.due("count(0) after undo()", y.count(0), 39);
    }

    private static void promise3Drop() {
        BorderRuns x = Check.of("abcde");
        CHECK.due("drop(0)", x.drop(0), BorderRuns.BAD_VALUE);
        CHECK.due("drop(-3)", x.drop(-3), BorderRuns.BAD_VALUE);
        CHECK.due("drop(41)", x.drop(41), BorderRuns.BAD_VALUE);
        CHECK.due("drop(most)", x.drop(Integer.MAX_VALUE), BorderRuns.BAD_VALUE);
        CHECK.due("drop(40)", x.drop(40), BorderRuns.UNKNOWN);
        CHECK.due("drop(6)", x.drop(6), BorderRuns.UNKNOWN);
        CHECK.due("drop(1)", x.drop(1), 4);
        CHECK.dueWord("drop(1)", x, "abcd");
        CHECK.due("drop(2)", x.drop(2), 2);
        CHECK.dueWord("drop(2)", x, "ab");
        CHECK.due("drop(2), all", x.drop(2), 0);
        CHECK.dueWord("drop of all", x, "");
        CHECK.due("drop(1) of none", x.drop(1), BorderRuns.UNKNOWN);
        CHECK.due("undo()", x.undo(), 3);
        CHECK.dueWord("undo()", x, "ab");
        CHECK.due("drop(40) of 40", Check.of(FORTY).drop(40), 0);
        CHECK.due("drop(39) of 40", Check.of(FORTY).drop(39), 1);
    }

    private static void promise4Change() {
        BorderRuns x = Check.of("abc");
        CHECK.due("change(1, 25)", x.change(1, 25), 1);
        CHECK.dueWord("change(1, 25)", x, "azc");
        CHECK.due("change(0, 2)", x.change(0, 2), 0);
        CHECK.due("change(2, 0)", x.change(2, 0), 2);
        CHECK.dueWord("changes", x, "cza");
        int held = x.count(10);
        CHECK.due("change(3, 0)", x.change(3, 0), BorderRuns.UNKNOWN);
        CHECK.due("change(-1, 0)", x.change(-1, 0), BorderRuns.UNKNOWN);
        CHECK.due("change(3, 26)", x.change(3, 26), BorderRuns.UNKNOWN);
        CHECK.due("change(0, 26)", x.change(0, 26), BorderRuns.BAD_VALUE);
        CHECK.due("change(0, -1)", x.change(0, -1), BorderRuns.BAD_VALUE);
        CHECK.due("change(0, 2), so already", x.change(0, 2), BorderRuns.NONE);
        CHECK.dueWord("wrong changes", x, "cza");
        CHECK.due("count(10)", x.count(10), held);
        x.undo();
        CHECK.dueWord("undo()", x, "czc");
        CHECK.due("change(39, 0)", Check.of(FORTY).change(39, 0), 9);
        CHECK.due("change(40, 0)", Check.of(FORTY).change(40, 0), BorderRuns.UNKNOWN);
        CHECK.due("change(0, 0) of none", new BorderRuns().change(0, 0), BorderRuns.UNKNOWN);
    }

    private static void promise5Reverse() {
        BorderRuns x = Check.of("abac");
        CHECK.due("reverse()", x.reverse(), 4);
        CHECK.dueWord("reverse()", x, "caba");
        x.undo();
        CHECK.dueWord("undo()", x, "abac");
        BorderRuns same = Check.of("abcba");
        int held = same.count(10);
        CHECK.due("reverse() of abcba", same.reverse(), BorderRuns.NONE);
        CHECK.due("count(10)", same.count(10), held);
        CHECK.due("reverse() of a", Check.of("a").reverse(), BorderRuns.NONE);
        CHECK.due("reverse() of none", new BorderRuns().reverse(), BorderRuns.NONE);
        CHECK.due("reverse() of 40", Check.of(FORTY).reverse(), 40);
    }

    private static void promise6Turn() {
        BorderRuns x = Check.of("abcde");
        CHECK.due("turn(2)", x.turn(2), 2);
        CHECK.dueWord("turn(2)", x, "cdeab");
        CHECK.due("turn(4)", x.turn(4), 1);
        CHECK.dueWord("turn(4)", x, "bcdea");
        CHECK.due("turn(5)", x.turn(5), BorderRuns.UNKNOWN);
        CHECK.due("turn(39)", x.turn(39), BorderRuns.UNKNOWN);
        CHECK.due("turn(40)", x.turn(40), BorderRuns.BAD_VALUE);
        CHECK.due("turn(0)", x.turn(0), BorderRuns.BAD_VALUE);
        CHECK.due("turn(-1)", x.turn(-1), BorderRuns.BAD_VALUE);
        CHECK.dueWord("wrong turns", x, "bcdea");
        x.undo();
        CHECK.dueWord("undo()", x, "cdeab");
        BorderRuns y = Check.of("abab");
        int held = y.count(10);
        CHECK.due("turn(2) of abab", y.turn(2), BorderRuns.NONE);
        CHECK.due("count(10)", y.count(10), held);
        CHECK.due("turn(1) of abab", y.turn(1), 1);
        CHECK.dueWord("turn(1)", y, "baba");
        CHECK.due("turn(1) of none", new BorderRuns().turn(1), BorderRuns.UNKNOWN);
        BorderRuns full = Check.of(FORTY);
        CHECK.due("turn(39) of 40", full.turn(39), 9);
        CHECK.due("turn(10) of 40", full.turn(10), BorderRuns.NONE);
    }

    private static void promise7Fold() {
        BorderRuns x = Check.of("abc");
        CHECK.due("fold(1, 3)", x.fold(1, 3), 5);
        CHECK.dueWord("fold(1, 3)", x, "abcbc");
        CHECK.due("fold(0, 5)", x.fold(0, 5), 10);
        CHECK.dueWord("fold(0, 5)", x, "abcbcabcbc");
        CHECK.due("fold(3, 3)", x.fold(3, 3), BorderRuns.UNKNOWN);
        CHECK.due("fold(4, 3)", x.fold(4, 3), BorderRuns.UNKNOWN);
        CHECK.due("fold(-1, 3)", x.fold(-1, 3), BorderRuns.UNKNOWN);
        CHECK.due("fold(0, 11)", x.fold(0, 11), BorderRuns.UNKNOWN);
        CHECK.due("fold(least, most)", x.fold(Integer.MIN_VALUE, Integer.MAX_VALUE), BorderRuns.UNKNOWN);
        CHECK.due("fold(0, 10)", x.fold(0, 10), 20);
        CHECK.due("fold(0, 20)", x.fold(0, 20), 40);
        CHECK.due("fold(0, 1) of 40", x.fold(0, 1), BorderRuns.FULL);
        CHECK.due("fold(0, 41) of 40", x.fold(0, 41), BorderRuns.UNKNOWN);
        CHECK.due("undo()", x.undo(), 3);
        CHECK.due("count(0)", x.count(0), 20);
        BorderRuns behindUndo = Check.of("abc");
        behindUndo.undo();
        behindUndo.ifLetter(25, 0);
        CHECK.due("fold(0, 1) behind undo()", behindUndo.fold(0, 1), 3);
        CHECK.dueWord("fold(0, 1) behind undo()", behindUndo, "aba");
        BorderRuns y = Check.of(FORTY);
        y.drop(3);
        CHECK.due("fold(0, 4) of 37", y.fold(0, 4), BorderRuns.FULL);
        CHECK.due("fold(4, 7) of 37", y.fold(4, 7), 40);
        CHECK.due("fold(0, 1) of none", new BorderRuns().fold(0, 1), BorderRuns.UNKNOWN);
    }
}
