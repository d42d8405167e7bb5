/** All promises: the class and the model answer the same, over every short word and over long runs of calls. */
public final class ModelTest {
    private static final Check CHECK = new Check("ModelTest");
    private static final int RUNS = 800;
    /** What an object answers behind its 512th call is free: it is asked no further. */
    private static final int MOST_CALLS = 512;
    private static final int CALLS_OF_A_LOOK = 41;
    private static final int CALLS_OF_A_TEXT = 21;

    private static long seed;
    private static int calls;
    private static BorderRuns object;
    private static Model model;

    public static void main(String[] args) {
        everyWord(2, 9);
        everyWord(3, 6);
        everyText("az()29", 6);
        longWords();
        for (int run = 0; run < RUNS && CHECK.isClean(); run++) {
            runOfCalls(run);
        }
        CHECK.end();
    }

    private static void everyWord(int letters, int longest) {
        int words = 1;
        for (int length = 0; length <= longest; length++) {
            for (int number = 0; number < words && CHECK.isClean(); number++) {
                start();
                int rest = number;
                for (int place = 0; place < length; place++) {
                    both("add", rest % letters, 0, 0);
                    rest /= letters;
                }
                look();
                tellAll(length, letters);
                look();
            }
            words *= letters;
        }
    }

    /** Words that are rich in runs, in squares, or in neither, of as many letters as there is room for. */
    private static void longWords() {
        String fibonacci = "abaababaabaababaababaabaababaabaababaaba";
        String thueMorse = "abbabaabbaababbabaababbaabbabaabbaababba";
        String squareFree = "abcacbabcbacabcacbacabcbabcacbabcbacabca";
        String ruler = "abacabadabacabaeabacabadabacabafabacabad";
        String[] words = {fibonacci, thueMorse, squareFree, ruler, "aabaabbaabaabbaabaabbabbabbababababaaaab",
            "a".repeat(40), "ab".repeat(20), "aab".repeat(13) + "a", "a".repeat(20) + "b".repeat(20)};
        for (String word : words) {
            for (int length = 39; length <= word.length() && CHECK.isClean(); length++) {
                start();
                for (int place = 0; place < length; place++) {
                    both("add", word.charAt(place) - 'a', 0, 0);
                }
                look();
                tellAll(length, 6);
                look();
            }
            for (int rank = 0; rank <= 400 && CHECK.isClean(); rank++) {
                ask("square", rank, 0, 0);
                ask("square", rank, 1, 0);
            }
        }
    }

    private static void tellAll(int length, int letters) {
        for (int what = -1; what <= 12; what++) {
            ask("count", what, 0, 0);
            ask("bestLetter", what, 0, 0);
            for (int one = -1; one <= length + 1; one++) {
                ask("at", one, what, 0);
                ask("square", one, what, 0);
                ask("run", one, what, 0);
                for (int other = -1; other <= length + 1; other++) {
                    ask("factor", one, other, what);
                }
            }
            for (int letter = 0; letter <= letters; letter++) {
                ask("ifLetter", letter, what, 0);
            }
        }
        for (int one = -1; one <= length + 1; one++) {
            ask("suffix", one, 0, 0);
            ask("unlike", one, 0, 0);
            for (int other = -1; other <= length + 1; other++) {
                ask("border", one, other, 0);
                ask("alike", one, other, 0);
            }
        }
    }

    /** A question to a word that was made by add() alone: it is made once more when its calls are used up. */
    private static void ask(String call, int a, int b, int c) {
        if (calls + 1 + CALLS_OF_A_LOOK > MOST_CALLS) {
            look();
            object = Check.of(model.word());
            calls = model.word().length();
        }
        both(call, a, b, c);
    }

    private static void everyText(String characters, int longest) {
        int texts = 1;
        for (int length = 0; length <= longest; length++) {
            for (int number = 0; number < texts && CHECK.isClean(); number++) {
                start();
                int rest = number;
                for (int index = 0; index < length; index++) {
                    both("type", characters.charAt(rest % characters.length()), 0, 0);
                    rest /= characters.length();
                }
                both("load", 0, 0, 0);
                both("count", 0, 0, 0);
                both("count", 2, 0, 0);
                look();
            }
            texts *= characters.length();
        }
    }

    private static void runOfCalls(int run) {
        start();
        seed = 7919L * run + 17;
        int letters = 1 + run % 4;
        while (calls + CALLS_OF_A_TEXT + 2 * CALLS_OF_A_LOOK <= MOST_CALLS && CHECK.isClean()) {
            if (draw(5) < 2) {
                anyAct(letters);
            } else {
                anyQuestion(letters);
            }
            if (draw(12) == 0) {
                look();
            }
        }
        look();
    }

    private static void anyAct(int letters) {
        int length = model.word().length();
        switch (draw(14)) {
            case 0: both("drop", draw(12) == 0 ? draw(44) - 1 : 1 + draw(4), 0, 0); break;
            case 1: both("change", draw(length + 3) - 1, anyLetter(letters), 0); break;
            case 2: both("reverse", 0, 0, 0); break;
            case 3: both("turn", draw(3) == 0 ? draw(43) - 1 : draw(length + 2), 0, 0); break;
            case 4: case 5: both("fold", draw(length + 2) - 1, draw(length + 2), 0); break;
            case 6: typeText(letters); both("load", 0, 0, 0); break;
            case 7: both("load", 0, 0, 0); break;
            case 8: both("clearText", 0, 0, 0); break;
            case 9: both("undo", 0, 0, 0); break;
            case 10: both("keep", 0, 0, 0); break;
            case 11: both("restore", 0, 0, 0); break;
            default: both("add", anyLetter(letters), 0, 0); break;
        }
    }

    private static void typeText(int letters) {
        if (draw(3) > 0) {
            both("clearText", 0, 0, 0);
        }
        boolean inGroup = false;
        int pieces = draw(10);
        for (int i = 0; i < pieces; i++) {
            if (draw(30) == 0) {
                both("type", draw(400), 0, 0);
            } else if (draw(4) == 0) {
                both("type", inGroup ? ')' : '(', 0, 0);
                inGroup = !inGroup;
            } else {
                both("type", 'a' + draw(letters), 0, 0);
            }
            if (!inGroup && draw(3) == 0) {
                both("type", '2' + draw(8), 0, 0);
            }
        }
        if (inGroup && draw(8) > 0) {
            both("type", ')', 0, 0);
        }
    }

    private static void anyQuestion(int letters) {
        int length = model.word().length();
        int place = draw(length + 2) - draw(2);
        int other = draw(length + 2) - draw(2);
        switch (draw(11)) {
            case 0: both("at", place, draw(6) - 1, 0); break;
            case 1: both("border", place, draw(8) - 1, 0); break;
            case 2: case 3: both("factor", Math.min(place, other), Math.max(place, other), draw(12) - 1); break;
            case 4: both("alike", place, other, 0); break;
            case 5: both("suffix", place, 0, 0); break;
            case 6: both("square", draw(30) - 1, draw(4) - 1, 0); break;
            case 7: both("run", draw(8) - 1, draw(7) - 1, 0); break;
            case 8: both("unlike", place, 0, 0); break;
            case 9: both(draw(4) == 0 ? "bestLetter" : "ifLetter", draw(6) - 1, draw(6) - 1, 0); break;
            default: both("count", draw(14) - 1, 0, 0); break;
        }
    }

    private static int anyLetter(int letters) {
        return draw(20) == 0 ? draw(30) - 2 : draw(letters);
    }

    private static void start() {
        object = new BorderRuns();
        model = new Model();
        calls = 0;
    }

    private static void look() {
        CHECK.dueWord("all calls", object, model.word());
        calls += model.word().length() + 1;
    }

    private static int draw(int below) {
        seed = seed * 6364136223846793005L + 1442695040888963407L;
        return (int) ((seed >>> 33) % below);
    }

    private static void both(String call, int a, int b, int c) {
        String told = call + "(" + a + ", " + b + ", " + c + ") of " + model.word();
        calls++;
        switch (call) {
            case "add": CHECK.due(told, object.add(a), model.add(a)); break;
            case "drop": CHECK.due(told, object.drop(a), model.drop(a)); break;
            case "change": CHECK.due(told, object.change(a, b), model.change(a, b)); break;
            case "reverse": CHECK.due(told, object.reverse(), model.reverse()); break;
            case "turn": CHECK.due(told, object.turn(a), model.turn(a)); break;
            case "fold": CHECK.due(told, object.fold(a, b), model.fold(a, b)); break;
            case "load": CHECK.due(told, object.load(), model.load()); break;
            case "type": CHECK.due(told, object.type((char) a), model.type((char) a)); break;
            case "clearText": CHECK.due(told, object.clearText(), model.clearText()); break;
            case "undo": CHECK.due(told, object.undo(), model.undo()); break;
            case "keep": CHECK.due(told, object.keep(), model.keep()); break;
            case "restore": CHECK.due(told, object.restore(), model.restore()); break;
            case "at": CHECK.due(told, object.at(a, b), model.at(a, b)); break;
            case "border": CHECK.due(told, object.border(a, b), model.border(a, b)); break;
            case "factor": CHECK.due(told, object.factor(a, b, c), model.factor(a, b, c)); break;
            case "alike": CHECK.due(told, object.alike(a, b), model.alike(a, b)); break;
            case "suffix": CHECK.due(told, object.suffix(a), model.suffix(a)); break;
            case "square": CHECK.due(told, object.square(a, b), model.square(a, b)); break;
            case "run": CHECK.due(told, object.run(a, b), model.run(a, b)); break;
            case "unlike": CHECK.due(told, object.unlike(a), model.unlike(a)); break;
            case "ifLetter": CHECK.due(told, object.ifLetter(a, b), model.ifLetter(a, b)); break;
            case "bestLetter": CHECK.due(told, object.bestLetter(a), model.bestLetter(a)); break;
            case "count": CHECK.due(told, object.count(a), model.count(a)); break;
            default: CHECK.due(told + ", which is no call", 0, 1); break;
        }
    }
}
