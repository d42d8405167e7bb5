/** Counts and prints the answers that are not as due. */
final class Check {
    private final String name;
    private int wrong = 0;
    private int answers = 0;

    Check(String name) {
        this.name = name;
    }

    void due(String call, long got, long want) {
        answers++;
        if (got != want) {
            wrong++;
            System.out.println(name + ": " + call + " answered " + got + ", due is " + want);
        }
    }

    void dueText(String call, String got, String want) {
        answers++;
        if (!got.equals(want)) {
            wrong++;
            System.out.println(name + ": " + call + " answered " + got + ", due is " + want);
        }
    }

    void dueWord(String calls, BorderRuns object, String want) {
        dueText("the word after " + calls, wordOf(object), want);
    }

    boolean isClean() {
        return wrong == 0;
    }

    void end() {
        System.out.println(name + ": " + answers + " answers, " + wrong + " not as due");
        if (wrong != 0 || answers == 0) {
            System.exit(1);
        }
    }

    static BorderRuns of(String word) {
        BorderRuns object = new BorderRuns();
        for (int i = 0; i < word.length(); i++) {
            object.add(word.charAt(i) - 'a');
        }
        return object;
    }

    static BorderRuns typed(String text) {
        BorderRuns object = new BorderRuns();
        typeInto(object, text);
        return object;
    }

    static void typeInto(BorderRuns object, String text) {
        for (int i = 0; i < text.length(); i++) {
            object.type(text.charAt(i));
        }
    }

    static String wordOf(BorderRuns object) {
        StringBuilder word = new StringBuilder();
        int length = object.count(0);
        for (int place = 0; place < length; place++) {
            word.append((char) ('a' + object.at(place, 0)));
        }
        return word.toString();
    }
}
