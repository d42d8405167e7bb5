/** Promises 8 to 10: texts, and the words that are read from them. */
public final class TextTest {
    private static final Check CHECK = new Check("TextTest");

    public static void main(String[] args) {
        promise8Words();
        promise8Faults();
        promise8Room();
        promise8IsAnAct();
        promise9Type();
        promise10ClearText();
        CHECK.end();
    }

    private static void loads(String text, String word) {
        BorderRuns x = Check.typed(text);
        CHECK.due("load() of " + text, x.load(), word.length());
        CHECK.dueWord("load() of " + text, x, word);
        CHECK.due("count(11) after load()", x.count(11), text.length());
    }

    private static void fails(String text, int fault) {
        BorderRuns x = Check.of("xy");
        x.undo();
        Check.typeInto(x, text);
        CHECK.due("load() of " + text, x.load(), -100 - fault);
        CHECK.dueWord("load() of " + text, x, "x");
        CHECK.due("count(10) after the fault", x.count(10), 1);
        CHECK.due("count(11) after the fault", x.count(11), text.length());
    }

    private static void promise8Words() {
        loads("a", "a");
        loads("azby", "azby");
        loads("a2", "aa");
        loads("a9b", "aaaaaaaaab");
        loads("(a)", "a");
        loads("(ab)", "ab");
        loads("(ab)2", "abab");
        loads("(ab)3c2(de)x", "abababccdex");
        loads("x(ab)(cd)2y", "xabcdcdy");
        loads("ab3", "abbb");
    }

    private static void promise8Faults() {
        fails("", 0);
        fails("2", 0);
        fails(")", 0);
        fails("(", 1);
        fails("(ab", 3);
        fails("()", 1);
        fails("(2", 1);
        fails("((", 1);
        fails("(a(", 2);
        fails("(a2)", 2);
        fails("a)", 1);
        fails("(a))", 3);
        fails("a1", 1);
        fails("a0", 1);
        fails("a22", 2);
        fails("(a)22", 4);
        fails("ab(", 3);
        fails("aB", 1);
        fails("a b", 1);
        fails("`", 0);
        fails("{", 0);
        fails("a:", 1);
        fails("a" + (char) 353, 1);
        fails("a" + (char) 65535, 1);
        fails("ab" + (char) 0, 2);
    }

    private static void promise8Room() {
        String forty = "abcdefghijabcdefghijabcdefghijabcdefghij";
        loads(forty, forty);
        loads("(abcdefghij)4", forty);
        loads("a9a9a9a9bcde", "a".repeat(36) + "bcde");
        loads("(" + forty + ")", forty);
        fails(forty + "k", 40);
        fails("(" + forty + "k", 41);
        fails("(abcdefghij)5", 12);
        fails("(abcdefghij)4k", 13);
        fails("(abcdefghij)4(", 14);
        fails("(abcdefghij)4(k", 14);
        fails("(abcdefghij)4()", 14);
        fails("(abcdefghij)4(2", 14);
        fails("(abcdefghij)4)", 13);
        fails("(abcdefghij)42", 13);
        fails(forty + "2", 40);
        fails("(" + forty + ")2", 42);
        fails("a9a9a9a9a5", 9);
        loads("a9a9a9a9a4", "a".repeat(40));
        loads("abcdefghijklmn(op)9abcdefgh", "abcdefghijklmn" + "op".repeat(9) + "abcdefgh");
        fails("abcdefghijklmnopqrstuvw(op)9abcdefghi", 27);
        fails("abcdefghijklmnopqrstuv(op)9a", 27);
    }

    private static void promise8IsAnAct() {
        BorderRuns x = Check.typed("ab");
        CHECK.due("load()", x.load(), 2);
        CHECK.due("load() again", x.load(), 2);
        CHECK.due("count(10)", x.count(10), 2);
        CHECK.due("undo()", x.undo(), 1);
        CHECK.dueWord("undo()", x, "ab");
        CHECK.due("undo()", x.undo(), 0);
        CHECK.dueWord("undo() to the beginning", x, "");
        Check.typeInto(x, "2");
        CHECK.due("load() of ab2", x.load(), 3);
        CHECK.dueWord("load() of ab2", x, "abb");
        Check.typeInto(x, ")");
        CHECK.due("load() of ab2)", x.load(), -103);
        CHECK.dueWord("load() of ab2)", x, "abb");
        x.clearText();
        Check.typeInto(x, "c");
        CHECK.due("load() of c", x.load(), 1);
        CHECK.dueWord("load() of c", x, "c");
    }

    private static void promise9Type() {
        BorderRuns x = new BorderRuns();
        for (int i = 1; i <= 60; i++) {
            CHECK.due("type " + i, x.type(i % 2 == 0 ? 'a' : (char) (i * 1000)), i);
        }
        CHECK.due("61st type", x.type('a'), BorderRuns.FULL);
        CHECK.due("count(11)", x.count(11), 60);
        CHECK.due("count(10)", x.count(10), 0);
        CHECK.due("undo() behind type", x.undo(), BorderRuns.NONE);
        StringBuilder sixty = new StringBuilder();
        for (int i = 0; i < 15; i++) {
            sixty.append("(a)2");
        }
        loads(sixty.toString(), "a".repeat(30));
    }

    private static void promise10ClearText() {
        BorderRuns x = Check.typed("abc");
        CHECK.due("clearText()", x.clearText(), 3);
        CHECK.due("clearText() again", x.clearText(), 0);
        CHECK.due("count(11)", x.count(11), 0);
        CHECK.due("load()", x.load(), -100);
        CHECK.due("type(b)", x.type('b'), 1);
        CHECK.due("load()", x.load(), 1);
        CHECK.dueWord("load()", x, "b");
        CHECK.due("clearText()", x.clearText(), 1);
        CHECK.due("count(10), clearText() is no act", x.count(10), 1);
        CHECK.dueWord("clearText()", x, "b");
    }
}
