/** The sentences of promises 8 to 10, and of "texts", that name a boundary case: each has a test under its words. */
public final class TextEdgesTest {
    private static final Check CHECK = new Check("TextEdgesTest");
    private static final String FORTY = "abcdefghijabcdefghijabcdefghijabcdefghiz";
    private static final String THIRTY_NINE = FORTY.substring(0, 39);
    /** 56 characters, 28 letters. */
    private static final String LONG = "(a)2".repeat(14);

    public static void main(String[] args) {
        emptyText();
        letters();
        digits();
        digitsStandBehindAPiece();
        groupsHaveLetters();
        groupsHaveLettersAlone();
        groupsBeginAndEnd();
        textEndsTooEarly();
        firstFaultIsTold();
        lettersBeyondForty();
        lettersInGroupsBeyondForty();
        digitsBeyondForty();
        groupsBehindForty();
        textOfSixty();
        loadTakesThePlaceOfTheWord();
        loadReadsAnew();
        loadIsAnAct();
        typeAnyCharacter();
        typeWhenFull();
        typeIsNoAct();
        clearTextTellsTheLength();
        clearTextIsNoAct();
        CHECK.end();
    }

    private static void loads(String text, String word) {
        for (String earlier : new String[] {"", "xyxy", FORTY}) {
            Scene.typed(CHECK, earlier, text).acts("load()", BorderRuns::load, word.length(), word);
        }
    }

    /** A fault is an error: nothing changes. */
    private static void fails(String text, int fault) {
        for (String earlier : new String[] {"", "xyxy", FORTY}) {
            Scene.typed(CHECK, earlier, text).refuses("load()", BorderRuns::load, -100 - fault);
        }
    }

    /** "(the empty text does)": it ends too early, at its length. */
    private static void emptyText() {
        fails("", 0);
        Scene.made(CHECK).refuses("load()", BorderRuns::load, -100);
        Scene cleared = new Scene(CHECK, "a text that was cleared", x -> {
            Check.typeInto(x, "ab");
            x.clearText();
        });
        cleared.refuses("load()", BorderRuns::load, -100);
    }

    /** "a letter from a to z" */
    private static void letters() {
        loads("a", "a");
        loads("z", "z");
        loads("az", "az");
        int[] others = {'a' - 1, 'z' + 1, 'A', 'Z', '@', '[', ' ', '-', '.', 0, 127, 128, 225, 255, 256, 'a' + 256,
            'z' + 256, '2' + 256, '(' + 256, 65535};
        for (int other : others) {
            fails("" + (char) other, 0);
            fails("b" + (char) other, 1);
            fails("(" + (char) other, 1);
            fails("(b" + (char) other, 2);
            fails("b2" + (char) other, 2);
        }
    }

    /** "a digit from 2 to 9: it stands so often" */
    private static void digits() {
        for (int times = 2; times <= 9; times++) {
            loads("x" + times, "x".repeat(times));
            loads("(xyz)" + times + "w", "xyz".repeat(times) + "w");
        }
        for (char other : new char[] {'0', '1', '2' - 1, '9' + 1, '/'}) {
            fails("x" + other, 1);
            fails("(xy)" + other, 4);
        }
    }

    /** "a piece is perhaps followed by a digit": by one alone, and not without a piece. */
    private static void digitsStandBehindAPiece() {
        fails("2", 0);
        fails("9a", 0);
        fails("(2)", 1);
        fails("a22", 2);
        fails("(ab)33", 5);
        fails("a2(3b)", 3);
        loads("a2b2", "aabb");
        loads("ab2", "abb");
        loads("(ab)2c3(d)2", "ababcccdd");
    }

    /** "(", one or more letters, and ")" */
    private static void groupsHaveLetters() {
        fails("()", 1);
        fails("a()", 2);
        fails("(a)()", 4);
        fails("a2()2", 3);
        loads("(a)", "a");
        loads("(ab)", "ab");
        loads("(a)(b)", "ab");
    }

    /** In a group stand letters alone: no digit, and no group. */
    private static void groupsHaveLettersAlone() {
        fails("(a2)", 2);
        fails("(ab9", 3);
        fails("((", 1);
        fails("((a))", 1);
        fails("(a(b))", 2);
        fails("(a)((b))", 4);
    }

    /** A ")" is allowed in a group alone. */
    private static void groupsBeginAndEnd() {
        fails(")", 0);
        fails("a)", 1);
        fails("(a))", 3);
        fails("(a)2)", 4);
        fails("a2)", 2);
    }

    /** "or the length of the text if it ends too early" */
    private static void textEndsTooEarly() {
        fails("(", 1);
        fails("(a", 2);
        fails("(ab", 3);
        fails("ab(", 3);
        fails("a2(", 3);
        fails("(ab)2(cd", 8);
    }

    /** "the index, from 0, of the first character that is not allowed at its place" */
    private static void firstFaultIsTold() {
        fails("A1)", 0);
        fails("a1)", 1);
        fails("(a2", 2);
        fails("ab)(", 2);
        fails("(1", 1);
        fails(FORTY + "1a", 40);
    }

    /** "A letter ... by which the word would have more than 40 letters is not allowed" */
    private static void lettersBeyondForty() {
        loads(THIRTY_NINE, THIRTY_NINE);
        loads(FORTY, FORTY);
        fails(FORTY + "a", 40);
        fails("(abcdefghij)4a", 13);
        loads("(abcdefghijklm)3z", "abcdefghijklm".repeat(3) + "z");
        fails("(abcdefghijklm)3zz", 17);
    }

    /** "letters in a group count as they come": not only when the group ends. */
    private static void lettersInGroupsBeyondForty() {
        loads("(" + FORTY + ")", FORTY);
        fails("(" + FORTY + "a", 41);
        fails("(" + FORTY + "a)", 41);
        loads("a9b9c9d9(efgh)", "a".repeat(9) + "b".repeat(9) + "c".repeat(9) + "d".repeat(9) + "efgh");
        fails("a9b9c9d9(efghi", 13);
        fails("a9b9c9d9(efghi)", 13);
        fails("a9b9c9d9(efgh", 13);
    }

    /** "or a digit by which the word would have more than 40 letters is not allowed" */
    private static void digitsBeyondForty() {
        loads(THIRTY_NINE + "2", THIRTY_NINE + "i");
        fails(THIRTY_NINE + "3", 39);
        fails(FORTY + "2", 40);
        loads("a9b9c9d9e4", "a".repeat(9) + "b".repeat(9) + "c".repeat(9) + "d".repeat(9) + "eeee");
        fails("a9b9c9d9e5", 9);
        loads("(abcdefghij)4", "abcdefghij".repeat(4));
        fails("(abcdefghij)5", 12);
        loads("(abcdefghijklmnopqrst)2", "abcdefghijklmnopqrst".repeat(2));
        fails("(abcdefghijklmnopqrstu)2", 23);
        fails("(" + FORTY + ")2", 42);
        fails("a(abcdefghij)4", 13);
        fails("(abcdef)7", 8);
        loads("(abcdef)6wxyz", "abcdef".repeat(6) + "wxyz");
    }

    /** "a "(" is allowed behind 40 letters, too" */
    private static void groupsBehindForty() {
        fails(FORTY + "(", 41);
        fails(FORTY + "(a", 41);
        fails(FORTY + "()", 41);
        fails(FORTY + "((", 41);
        fails(FORTY + "(2", 41);
        fails("(" + FORTY + ")(", 43);
        fails("(abcdefghij)4(", 14);
        fails(FORTY + ")", 40);
    }

    /** A text of 60 characters is read to its end, and a fault at its last place or behind it is told. */
    private static void textOfSixty() {
        loads(LONG + "bcde", "a".repeat(28) + "bcde");
        loads(LONG + "(b)9", "a".repeat(28) + "b".repeat(9));
        fails(LONG + "bcd(", 60);
        fails(LONG + "(bcd", 60);
        fails(LONG + "bcd)", 59);
        fails(LONG + "b22c", 58);
        fails("a".repeat(60), 40);
        fails(")" + "a".repeat(59), 0);
        loads(LONG + "bcd", "a".repeat(28) + "bcd");
    }

    /** "Makes the word that of the text, which stays"; "Returns its length" */
    private static void loadTakesThePlaceOfTheWord() {
        BorderRuns x = Check.of(FORTY);
        Check.typeInto(x, "b");
        CHECK.due("load() of b in place of 40 letters", x.load(), 1);
        CHECK.dueWord("load()", x, "b");
        Check.typeInto(x, "3");
        CHECK.due("load() of b3", x.load(), 3);
        CHECK.dueWord("load()", x, "bbb");
        Check.typeInto(x, "4");
        CHECK.due("load() of b34", x.load(), -102);
        CHECK.dueWord("load() with a fault", x, "bbb");
        CHECK.due("count(11), the text stays", x.count(11), 3);
    }

    /** Each load() reads the text from its beginning: nothing is left over from an earlier one. */
    private static void loadReadsAnew() {
        String[] earlier = {"a", "(ab)", "a2", "a(", "(a", "(ab", "(", "", "a1", FORTY + "b", "(" + FORTY + "b"};
        for (String first : earlier) {
            anew(first, "2", -100);
            anew(first, "2a", -100);
            anew(first, ")", -100);
            anew(first, "a)", -101);
            anew(first, "(a", -102);
            anew(first, "b(c)3d2", 6);
            anew(first, FORTY, 40);
        }
    }

    private static void anew(String first, String second, int want) {
        BorderRuns x = Check.typed(first);
        x.load();
        x.clearText();
        Check.typeInto(x, second);
        CHECK.due("load() of " + second + " behind load() of " + first, x.load(), want);
    }

    /** "This is an act": the state before it is recorded, even if the word stays the same. */
    private static void loadIsAnAct() {
        Scene.typed(CHECK, "xyxy", "(xy)2").acts("load()", BorderRuns::load, 4, "xyxy");
        Scene first = new Scene(CHECK, "a new object with the text z", x -> x.type('z'));
        first.leaves("load()", BorderRuns::load, 1, "z", "");
        first.leaves("load() twice", x -> x.load() + x.load(), 2, "z", "z", "");
    }

    /** "character: any character"; "Returns the length of the text then" */
    private static void typeAnyCharacter() {
        int[] characters = {0, 1, ' ', '(', 127, 128, 255, 256, 32767, 32768, 65534, 65535};
        for (int character : characters) {
            Scene.made(CHECK).types("type(" + character + ")", x -> x.type((char) character), 1, 1,
                character == '(' ? -101 : -100);
            Scene.typed(CHECK, "xy", "b").types("type(" + character + ")", x -> x.type((char) character), 2, 2,
                character == '(' ? -102 : -101);
        }
        Scene.typed(CHECK, "xy", "b").types("type(3)", x -> x.type('3'), 2, 2, 3);
    }

    /** "at most 60 characters"; "FULL if it has 60 characters" */
    private static void typeWhenFull() {
        Scene fiftyNine = Scene.typed(CHECK, "xy", LONG + "bcd");
        fiftyNine.types("type(e)", x -> x.type('e'), 60, 60, 32);
        fiftyNine.types("type(()", x -> x.type('('), 60, 60, -160);
        Scene sixty = Scene.typed(CHECK, "xy", LONG + "bcde");
        sixty.refuses("type(f)", x -> x.type('f'), BorderRuns.FULL);
        sixty.refuses("type(()", x -> x.type('('), BorderRuns.FULL);
        sixty.refuses("type(0)", x -> x.type((char) 0), BorderRuns.FULL);
        sixty.types("type(f) behind clearText()", x -> x.clearText() + x.type('f'), 61, 1, 1);
    }

    /** What is typed records no state, and no undo() takes it back. */
    private static void typeIsNoAct() {
        BorderRuns x = Check.of("b");
        CHECK.due("type(c)", x.type('c'), 1);
        CHECK.due("count(10)", x.count(10), 1);
        CHECK.due("undo()", x.undo(), 0);
        CHECK.due("count(11) behind undo()", x.count(11), 1);
        CHECK.due("load() behind undo()", x.load(), 1);
        CHECK.dueWord("load() behind undo()", x, "c");
    }

    /** "Returns the length that it had": of the empty text 0, of a full one 60. */
    private static void clearTextTellsTheLength() {
        Scene.typed(CHECK, "xy", "").types("clearText()", BorderRuns::clearText, 0, 0, -100);
        Scene.typed(CHECK, "xy", "b").types("clearText()", BorderRuns::clearText, 1, 0, -100);
        Scene.typed(CHECK, "xy", LONG + "bcd").types("clearText()", BorderRuns::clearText, 59, 0, -100);
        Scene.typed(CHECK, "xy", LONG + "bcde").types("clearText()", BorderRuns::clearText, 60, 0, -100);
        Scene.typed(CHECK, "xy", "bc").types("clearText() twice", x -> x.clearText() * 10 + x.clearText(), 20, 0, -100);
    }

    private static void clearTextIsNoAct() {
        BorderRuns x = Check.typed("bc");
        x.load();
        CHECK.due("clearText()", x.clearText(), 2);
        CHECK.due("count(10)", x.count(10), 1);
        CHECK.due("undo()", x.undo(), 0);
        CHECK.due("count(11) behind undo()", x.count(11), 0);
    }
}
