/** Promises 11 to 13: undo and the snapshot. */
public final class HistoryTest {
    private static final Check CHECK = new Check("HistoryTest");

    public static void main(String[] args) {
        promise11Undo();
        promise11OldestIsDropped();
        promise11WhatRecords();
        promise12Keep();
        promise13Restore();
        CHECK.end();
    }

    private static void promise11Undo() {
        BorderRuns x = new BorderRuns();
        x.add(0);
        x.add(1);
        CHECK.due("count(10)", x.count(10), 2);
        CHECK.due("undo()", x.undo(), 1);
        CHECK.dueWord("undo()", x, "a");
        x.add(2);
        CHECK.dueWord("undo() and add(2)", x, "ac");
        CHECK.due("count(10)", x.count(10), 2);
        CHECK.due("undo()", x.undo(), 1);
        CHECK.dueWord("undo()", x, "a");
        CHECK.due("undo()", x.undo(), 0);
        CHECK.dueWord("undo()", x, "");
        CHECK.due("undo() of none", x.undo(), BorderRuns.NONE);
        CHECK.dueWord("undo() of none", x, "");
    }

    private static void promise11OldestIsDropped() {
        BorderRuns x = Check.of("abcdefg");
        CHECK.due("count(10)", x.count(10), 4);
        String[] words = {"abcdef", "abcde", "abcd", "abc"};
        for (int i = 0; i < words.length; i++) {
            CHECK.due("undo()", x.undo(), 3 - i);
            CHECK.dueWord("undo()", x, words[i]);
        }
        CHECK.due("undo() of none", x.undo(), BorderRuns.NONE);
        CHECK.dueWord("undo() of none", x, "abc");
        x.add(25);
        CHECK.due("count(10)", x.count(10), 1);
        CHECK.due("undo()", x.undo(), 0);
        CHECK.dueWord("undo()", x, "abc");
    }

    private static void promise11WhatRecords() {
        BorderRuns x = Check.typed("(ab)2c");
        x.load();
        CHECK.due("reverse()", x.reverse(), 5);
        CHECK.due("turn(1)", x.turn(1), 1);
        CHECK.due("fold(0, 2)", x.fold(0, 2), 7);
        CHECK.due("change(6, 25)", x.change(6, 25), 0);
        CHECK.dueWord("acts", x, "babacbz");
        CHECK.due("undo()", x.undo(), 3);
        CHECK.dueWord("undo() of change", x, "babacba");
        CHECK.due("undo()", x.undo(), 2);
        CHECK.dueWord("undo() of fold", x, "babac");
        CHECK.due("undo()", x.undo(), 1);
        CHECK.dueWord("undo() of turn", x, "cbaba");
        CHECK.due("undo()", x.undo(), 0);
        CHECK.dueWord("undo() of reverse", x, "ababc");
        x.drop(1);
        x.keep();
        x.type('x');
        x.clearText();
        x.ifLetter(0, 3);
        x.bestLetter(3);
        x.turn(2);
        x.add(26);
        x.count(5);
        CHECK.due("count(10), one act", x.count(10), 1);
        x.undo();
        CHECK.dueWord("undo() of drop", x, "ababc");
    }

    private static void promise12Keep() {
        BorderRuns x = Check.of("abc");
        CHECK.due("keep()", x.keep(), 3);
        CHECK.due("count(10), keep() is no act", x.count(10), 3);
        x.add(3);
        CHECK.due("keep() in its place", x.keep(), 4);
        x.drop(4);
        CHECK.due("restore()", x.restore(), 4);
        CHECK.dueWord("restore()", x, "abcd");
        BorderRuns empty = new BorderRuns();
        CHECK.due("keep() of none", empty.keep(), 0);
        empty.add(1);
        CHECK.due("restore() of none", empty.restore(), 0);
        CHECK.dueWord("restore() of none", empty, "");
    }

    private static void promise13Restore() {
        BorderRuns x = Check.of("ab");
        CHECK.due("restore() without a snapshot", x.restore(), BorderRuns.NONE);
        CHECK.due("count(10)", x.count(10), 2);
        x.keep();
        x.type('q');
        CHECK.due("restore() of the same", x.restore(), 2);
        CHECK.due("count(10), restore() is an act", x.count(10), 3);
        x.add(2);
        CHECK.due("restore()", x.restore(), 2);
        CHECK.dueWord("restore()", x, "ab");
        CHECK.due("count(11), the text is no state", x.count(11), 1);
        CHECK.due("undo()", x.undo(), 3);
        CHECK.dueWord("undo() of restore()", x, "abc");
        x.reverse();
        CHECK.due("restore() once more, it stays", x.restore(), 2);
        CHECK.dueWord("restore()", x, "ab");
        x.undo();
        x.undo();
        CHECK.due("restore() behind undo()", x.restore(), 2);
        CHECK.dueWord("restore()", x, "ab");
    }
}
