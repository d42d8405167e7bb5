import java.util.ArrayList;
import java.util.List;
import java.util.function.Consumer;
import java.util.function.ToIntFunction;

/**
 * A state that can be made again and again. A call in it is judged by its answer and by all that
 * it leaves behind: the word and what is told of it, the history, the snapshot and the text.
 */
final class Scene {
    private static final int MOST_STATES = 4;
    private static final String NO_SNAPSHOT = "no snapshot";

    private final Check check;
    private final String name;
    private final Consumer<BorderRuns> steps;
    private final Left before;

    Scene(Check check, String name, Consumer<BorderRuns> steps) {
        this.check = check;
        this.name = name;
        this.steps = steps;
        this.before = leftBy(x -> 0);
    }

    /** A full history, a snapshot ("sn") and a text ("ab3"), so that a call has something to spoil. */
    static Scene of(Check check, String word) {
        return typed(check, word, "ab3");
    }

    static Scene typed(Check check, String word, String text) {
        String name = "'" + word + "' with the text '" + text + "'";
        Scene scene = new Scene(check, name, x -> {
            x.add('s' - 'a');
            x.add('n' - 'a');
            x.keep();
            x.drop(1);
            x.drop(1);
            addAll(x, word);
            Check.typeInto(x, text);
        });
        List<String> past = new ArrayList<>(List.of("s", "sn", "s", ""));
        for (int length = 0; length < word.length(); length++) {
            past.add(0, word.substring(0, length));
        }
        scene.stands(word, past.subList(0, MOST_STATES), "sn", text.length());
        return scene;
    }

    private void stands(String word, List<String> past, String kept, int characters) {
        check.dueText(name + ": the word", before.word, word);
        check.dueText(name + ": the history", before.past.toString(), past.toString());
        check.dueText(name + ": the snapshot", before.kept, kept);
        check.due(name + ": the length of the text", before.characters, characters);
    }

    static Scene made(Check check) {
        Scene scene = new Scene(check, "a new object", x -> { });
        scene.stands("", List.of(), NO_SNAPSHOT, 0);
        return scene;
    }

    static void addAll(BorderRuns object, String word) {
        for (int i = 0; i < word.length(); i++) {
            object.add(word.charAt(i) - 'a');
        }
    }

    /** The call returns an error or NONE, and so changes nothing. */
    void refuses(String call, ToIntFunction<BorderRuns> asked, int want) {
        check.due("whether " + want + " refuses", want < 0 ? 1 : 0, 1);
        tells(call, asked, want);
    }

    /** The call returns what is wanted, and changes nothing. */
    void tells(String call, ToIntFunction<BorderRuns> asked, int want) {
        answers(call, asked, want);
        leftIs(call, asked, before);
    }

    /** The call changes the word, and records the state that was before it. */
    void acts(String call, ToIntFunction<BorderRuns> act, int want, String word) {
        List<String> past = new ArrayList<>(before.past);
        past.add(0, before.word);
        while (past.size() > MOST_STATES) {
            past.remove(past.size() - 1);
        }
        leaves(call, act, want, word, past.toArray(new String[0]));
    }

    /** The call leaves this word and these states, the latest one first; the rest is as it was. */
    void leaves(String call, ToIntFunction<BorderRuns> act, int want, String word, String... past) {
        answers(call, act, want);
        leftIs(call, act, before.with(word, List.of(past)));
    }

    /** The call leaves this snapshot; the rest is as it was. */
    void keeps(String call, ToIntFunction<BorderRuns> asked, int want, String kept) {
        answers(call, asked, want);
        Left due = before.with(before.word, before.past);
        due.kept = kept;
        leftIs(call, asked, due);
    }

    /** The call leaves a text of so many characters, from which load() answers so; the rest is as it was. */
    void types(String call, ToIntFunction<BorderRuns> asked, int want, int characters, int loading) {
        answers(call, asked, want);
        Left due = before.with(before.word, before.past);
        due.characters = characters;
        due.loading = loading;
        due.loaded = null;
        leftIs(call, asked, due);
    }

    private void answers(String call, ToIntFunction<BorderRuns> asked, int want) {
        check.due(name + ": " + call, asked.applyAsInt(newObject()), want);
    }

    private void leftIs(String call, ToIntFunction<BorderRuns> asked, Left due) {
        String told = name + ": behind " + call + ", ";
        Left left = leftBy(asked);
        check.dueText(told + "the word", left.word, due.word);
        check.dueText(told + "what is told of it", left.told, told(Check.of(due.word)));
        check.due(told + "the states", left.states, due.past.size());
        check.dueText(told + "the history", left.past.toString(), due.past.toString());
        check.dueText(told + "the snapshot", left.kept, due.kept);
        check.due(told + "the length of the text", left.characters, due.characters);
        check.due(told + "load()", left.loading, due.loading);
        if (due.loaded != null) {
            check.dueText(told + "the word of load()", left.loaded, due.loaded);
        }
    }

    private BorderRuns newObject() {
        BorderRuns object = new BorderRuns();
        steps.accept(object);
        return object;
    }

    /** To look at the history, the snapshot or the text changes it: so each is looked at in an object of its own. */
    private Left leftBy(ToIntFunction<BorderRuns> call) {
        Left left = new Left();
        BorderRuns looked = newObject();
        call.applyAsInt(looked);
        left.word = Check.wordOf(looked);
        left.told = told(looked);
        left.states = looked.count(10);
        left.characters = looked.count(11);
        BorderRuns undone = newObject();
        call.applyAsInt(undone);
        while (left.past.size() <= MOST_STATES && undone.undo() != BorderRuns.NONE) {
            left.past.add(Check.wordOf(undone));
        }
        BorderRuns restored = newObject();
        call.applyAsInt(restored);
        left.kept = restored.restore() == BorderRuns.NONE ? NO_SNAPSHOT : Check.wordOf(restored);
        BorderRuns loaded = newObject();
        call.applyAsInt(loaded);
        left.loading = loaded.load();
        left.loaded = Check.wordOf(loaded);
        if (left.loading < 0) {
            left.loaded = null;
        }
        return left;
    }

    private static String told(BorderRuns object) {
        StringBuilder told = new StringBuilder();
        for (int what = 0; what <= 9; what++) {
            told.append(object.count(what)).append(' ');
        }
        int length = object.count(0);
        for (int place = 0; place < length; place++) {
            for (int what = 0; what <= 3; what++) {
                told.append(object.at(place, what)).append(' ');
            }
        }
        return told.toString();
    }

    private static final class Left {
        private String word;
        private String told;
        private int states;
        private List<String> past = new ArrayList<>();
        private String kept;
        private int characters;
        private int loading;
        private String loaded;

        private Left with(String otherWord, List<String> otherPast) {
            Left left = new Left();
            left.word = otherWord;
            left.past = otherPast;
            left.kept = kept;
            left.characters = characters;
            left.loading = loading;
            left.loaded = loaded;
            return left;
        }
    }
}
