import java.util.ArrayDeque;
import java.util.ArrayList;
import java.util.Collections;
import java.util.HashMap;
import java.util.HashSet;
import java.util.List;
import java.util.Map;
import java.util.Set;
import java.util.TreeSet;
import java.util.regex.Matcher;
import java.util.regex.Pattern;

/**
 * The document once more, by its definitions and with the Java library, as slow as they are: for
 * ModelTest, which compares. It shares no way of reckoning with the class, so that a fault of one
 * is not a fault of both.
 */
final class Model {
    private static final Pattern BEGINNING = Pattern.compile("((?:[a-z]|\\([a-z]+\\))[2-9]?)*(\\([a-z]*)?");
    private static final Pattern WHOLE = Pattern.compile("((?:[a-z]|\\([a-z]+\\))[2-9]?)+");
    private static final Pattern PIECE = Pattern.compile("\\(?([a-z]*)\\)?([2-9]?)");

    private String word = "";
    private String text = "";
    private String snapshot = null;
    private final ArrayDeque<String> history = new ArrayDeque<>();
    private String analysed = null;
    private final Map<String, TreeSet<Integer>> ends = new HashMap<>();
    private final List<int[]> squares = new ArrayList<>();
    private final List<int[]> runs = new ArrayList<>();

    String word() {
        return word;
    }

    int add(int letter) {
        if (letter < 0 || letter > 25) {
            return -2;
        }
        if (word.length() == 40) {
            return -3;
        }
        act(word + (char) ('a' + letter));
        return longestBorder(word);
    }

    int drop(int many) {
        if (many < 1 || many > 40) {
            return -2;
        }
        if (word.length() < many) {
            return -1;
        }
        act(word.substring(0, word.length() - many));
        return word.length();
    }

    int change(int place, int letter) {
        if (place < 0 || place >= word.length()) {
            return -1;
        }
        if (letter < 0 || letter > 25) {
            return -2;
        }
        int previous = word.charAt(place) - 'a';
        if (previous == letter) {
            return -4;
        }
        act(word.substring(0, place) + (char) ('a' + letter) + word.substring(place + 1));
        return previous;
    }

    int reverse() {
        String reversed = new StringBuilder(word).reverse().toString();
        if (reversed.equals(word)) {
            return -4;
        }
        act(reversed);
        return word.length();
    }

    int turn(int many) {
        if (many < 1 || many > 39) {
            return -2;
        }
        if (word.length() <= many) {
            return -1;
        }
        String turned = word.substring(many) + word.substring(0, many);
        if (turned.equals(word)) {
            return -4;
        }
        act(turned);
        return word.charAt(0) - 'a';
    }

    int fold(int from, int to) {
        if (from < 0 || to <= from || to > word.length()) {
            return -1;
        }
        String folded = word + word.substring(from, to);
        if (folded.length() > 40) {
            return -3;
        }
        act(folded);
        return word.length();
    }

    int load() {
        for (int i = 0; i < text.length(); i++) {
            String beginning = text.substring(0, i + 1);
            if (!BEGINNING.matcher(beginning).matches() || wordOf(beginning).length() > 40) {
                return -100 - i;
            }
        }
        if (!WHOLE.matcher(text).matches()) {
            return -100 - text.length();
        }
        act(wordOf(text));
        return word.length();
    }

    private static String wordOf(String text) {
        StringBuilder read = new StringBuilder();
        Matcher piece = PIECE.matcher(text);
        // Each piece takes one letter alone unless it is a group, so groups are told apart first.
        int index = 0;
        while (index < text.length()) {
            int to = index + 1;
            if (text.charAt(index) == '(') {
                int close = text.indexOf(')', index);
                to = close < 0 ? text.length() : close + 1;
            }
            if (to < text.length() && Character.isDigit(text.charAt(to))) {
                to++;
            }
            piece.region(index, to);
            if (!piece.matches()) {
                throw new IllegalStateException(text);
            }
            read.append(piece.group(1).repeat(piece.group(2).isEmpty() ? 1 : Integer.parseInt(piece.group(2))));
            index = to;
        }
        return read.toString();
    }

    int type(char character) {
        if (text.length() == 60) {
            return -3;
        }
        text += character;
        return text.length();
    }

    int clearText() {
        int length = text.length();
        text = "";
        return length;
    }

    int undo() {
        if (history.isEmpty()) {
            return -4;
        }
        word = history.removeLast();
        return history.size();
    }

    int keep() {
        snapshot = word;
        return word.length();
    }

    int restore() {
        if (snapshot == null) {
            return -4;
        }
        act(snapshot);
        return word.length();
    }

    int at(int place, int what) {
        if (place < 0 || place >= word.length()) {
            return -1;
        }
        analyse();
        switch (what) {
            case 0: return word.charAt(place) - 'a';
            case 1: return suffixes().indexOf(word.substring(place));
            case 2: return (int) runs.stream().filter(r -> r[0] <= place && place < r[1]).count();
            case 3: return (int) squares.stream().filter(s -> s[0] + 2 * s[1] == place + 1).count();
            default: return -2;
        }
    }

    int border(int letters, int rank) {
        if (letters < 1 || letters > word.length()) {
            return -1;
        }
        if (rank < 0) {
            return -2;
        }
        List<Integer> borders = borders(word.substring(0, letters));
        return rank < borders.size() ? borders.get(rank) : -4;
    }

    int factor(int from, int to, int what) {
        if (from < 0 || to <= from || to > word.length()) {
            return -1;
        }
        analyse();
        String factor = word.substring(from, to);
        switch (what) {
            case 0: return ends.get(factor).size();
            case 1: return ends.get(factor).first();
            case 2: return ends.get(factor).last();
            case 3: return classOf(factor).last();
            case 4: return classOf(factor).first();
            case 5: return link(factor);
            case 6: return period(factor);
            case 7: return longestBorder(factor);
            case 8: return isPower(factor) ? 0 : 1;
            case 9: return (int) Math.floor(100.0 * factor.length() / period(factor));
            default: return -2;
        }
    }

    int alike(int one, int other) {
        if (one < 0 || other < 0 || one >= word.length() || other >= word.length()) {
            return -1;
        }
        int alike = 0;
        while (one + alike < word.length() && other + alike < word.length()
            && word.startsWith(word.substring(one, one + alike + 1), other)) {
            alike++;
        }
        return alike;
    }

    int suffix(int rank) {
        if (rank < 0) {
            return -2;
        }
        return rank < word.length() ? word.length() - suffixes().get(rank).length() : -4;
    }

    int square(int rank, int what) {
        if (rank < 0 || what < 0 || what > 1) {
            return -2;
        }
        analyse();
        return rank < squares.size() ? squares.get(rank)[what] : -4;
    }

    int run(int rank, int what) {
        if (rank < 0 || what < 0 || what > 4) {
            return -2;
        }
        analyse();
        if (rank >= runs.size()) {
            return -4;
        }
        int[] run = runs.get(rank);
        if (what < 3) {
            return run[what];
        }
        if (what == 3) {
            return root(run);
        }
        return (int) squares.stream()
            .filter(s -> s[1] == run[2] && s[0] >= run[0] && s[0] + 2 * s[1] <= run[1]).count();
    }

    int unlike(int letters) {
        if (letters < 0 || letters > word.length()) {
            return -1;
        }
        return factors(word.substring(0, letters)).size();
    }

    int ifLetter(int letter, int what) {
        if (letter < 0 || letter > 25 || what < 0 || what > 3) {
            return -2;
        }
        if (word.length() == 40) {
            return -3;
        }
        Model then = new Model();
        then.word = word + (char) ('a' + letter);
        switch (what) {
            case 0: return then.count(6);
            case 1: return then.count(2) - count(2);
            case 2: return then.count(4) - count(4);
            default: return then.count(5);
        }
    }

    int bestLetter(int what) {
        if (what < 0 || what > 3) {
            return -2;
        }
        if (word.length() == 40) {
            return -3;
        }
        List<Integer> values = new ArrayList<>();
        for (int letter = 0; letter < 26; letter++) {
            // Letters that are not in the word differ in nothing: one reckoning does for them all.
            boolean likeTheOneBefore = letter > 0 && word.indexOf('a' + letter) < 0 && word.indexOf('a' + letter - 1) < 0;
            values.add(likeTheOneBefore ? values.get(letter - 1) : (Integer) ifLetter(letter, what));
        }
        return values.indexOf(Collections.max(values));
    }

    int count(int what) {
        analyse();
        switch (what) {
            case 0: return word.length();
            case 1: return (int) word.chars().distinct().count();
            case 2: return ends.size();
            case 3: return new HashSet<>(ends.values()).size();
            case 4: return squares.size();
            case 5: return runs.size();
            case 6: return longestBorder(word);
            case 7: return word.isEmpty() ? 0 : period(word);
            case 8: return ends.keySet().stream().filter(f -> ends.get(f).size() > 1)
                .mapToInt(String::length).max().orElse(0);
            case 9: return (int) squares.stream().map(s -> word.substring(s[0], s[0] + 2 * s[1])).distinct().count();
            case 10: return history.size();
            case 11: return text.length();
            default: return -2;
        }
    }

    private void act(String next) {
        history.addLast(word);
        if (history.size() > 4) {
            history.removeFirst();
        }
        word = next;
    }

    private void analyse() {
        if (word.equals(analysed)) {
            return;
        }
        analysed = word;
        ends.clear();
        squares.clear();
        runs.clear();
        int length = word.length();
        for (int from = 0; from < length; from++) {
            for (int to = from + 1; to <= length; to++) {
                ends.computeIfAbsent(word.substring(from, to), f -> new TreeSet<>()).add(to);
            }
            for (int half = 1; from + 2 * half <= length; half++) {
                if (word.substring(from, from + half).equals(word.substring(from + half, from + 2 * half))) {
                    squares.add(new int[] {from, half});
                }
            }
        }
        findRuns();
    }

    private void findRuns() {
        int length = word.length();
        for (int from = 0; from < length; from++) {
            List<int[]> here = new ArrayList<>();
            for (int to = from + 2; to <= length; to++) {
                int period = period(word.substring(from, to));
                boolean further = from > 0 && hasPeriod(word.substring(from - 1, to), period)
                    || to < length && hasPeriod(word.substring(from, to + 1), period);
                if (to - from >= 2 * period && !further) {
                    here.add(new int[] {from, to, period});
                }
            }
            here.sort((a, b) -> Integer.compare(a[2], b[2]));
            runs.addAll(here);
        }
    }

    private int root(int[] run) {
        TreeSet<String> roots = new TreeSet<>();
        for (int from = run[0]; from + run[2] <= run[1]; from++) {
            roots.add(word.substring(from, from + run[2]));
        }
        return word.indexOf(roots.first(), run[0]);
    }

    private TreeSet<Integer> classOf(String factor) {
        TreeSet<Integer> lengths = new TreeSet<>();
        TreeSet<Integer> own = ends.get(factor);
        ends.forEach((other, its) -> {
            if (its.equals(own)) {
                lengths.add(other.length());
            }
        });
        return lengths;
    }

    private int link(String factor) {
        int end = ends.get(factor).first();
        String shortest = word.substring(end - classOf(factor).first(), end);
        for (int cut = 1; cut < shortest.length(); cut++) {
            String rest = shortest.substring(cut);
            if (!ends.get(rest).equals(ends.get(factor))) {
                return classOf(rest).last();
            }
        }
        return 0;
    }

    private List<String> suffixes() {
        List<String> suffixes = new ArrayList<>();
        for (int place = 0; place < word.length(); place++) {
            suffixes.add(word.substring(place));
        }
        Collections.sort(suffixes);
        return suffixes;
    }

    private static Set<String> factors(String word) {
        Set<String> factors = new HashSet<>();
        for (int from = 0; from < word.length(); from++) {
            for (int to = from + 1; to <= word.length(); to++) {
                factors.add(word.substring(from, to));
            }
        }
        return factors;
    }

    private static List<Integer> borders(String word) {
        List<Integer> borders = new ArrayList<>();
        for (int size = word.length() - 1; size >= 1; size--) {
            if (word.startsWith(word.substring(word.length() - size))) {
                borders.add(size);
            }
        }
        return borders;
    }

    private static int longestBorder(String word) {
        List<Integer> borders = borders(word);
        return borders.isEmpty() ? 0 : borders.get(0);
    }

    private static boolean hasPeriod(String word, int period) {
        for (int place = period; place < word.length(); place++) {
            if (word.charAt(place) != word.charAt(place - period)) {
                return false;
            }
        }
        return true;
    }

    private static int period(String word) {
        int period = 1;
        while (!hasPeriod(word, period)) {
            period++;
        }
        return period;
    }

    private static boolean isPower(String word) {
        for (int times = 2; times <= word.length(); times++) {
            if (word.length() % times == 0 && word.substring(0, word.length() / times).repeat(times).equals(word)) {
                return true;
            }
        }
        return false;
    }
}
