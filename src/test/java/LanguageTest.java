import java.io.IOException;
import java.lang.reflect.Method;
import java.lang.reflect.Modifier;
import java.nio.file.Files;
import java.nio.file.Path;
import java.util.ArrayList;
import java.util.Arrays;
import java.util.List;
import java.util.Map;
import java.util.Set;
import java.util.TreeMap;
import java.util.TreeSet;
import java.util.regex.Matcher;
import java.util.regex.Pattern;

/** Those rules of LANGUAGE.md, by number, that the words of the program show. It is run at the project's root. */
public final class LanguageTest {
    private static final Check CHECK = new Check("LanguageTest");
    private static final int LONGEST_METHOD = 60;
    private static final int MOST_CLASSES = 12;
    private static final int MOST_PARAMETERS = 7;
    private static final int MOST_FIELDS = 20;
    private static final int DEEPEST_CALLS = 8;
    private static final String[] FACE = {"add", "drop", "change", "reverse", "turn", "fold", "load", "type",
        "clearText", "undo", "keep", "restore", "at", "border", "factor", "alike", "suffix", "square", "run",
        "unlike", "ifLetter", "bestLetter", "count"};

    public static void main(String[] args) throws IOException {
        String source = Files.readString(Path.of("src/main/java/BorderRuns.java"));
        String code = source.replaceAll("(?s)/\\*.*?\\*/", "").replaceAll("//[^\n]*", "");
        CHECK.due("signs that are not 1 to 127", source.chars().filter(c -> c < 1 || c > 127).count(), 0);
        none(code, "rule 1, package and library", "\\b(package|import|java\\.)");
        none(code, "rule 2, lambda or method reference", "->|::");
        none(code, "rule 4, what is not listed", "\\b(System\\.(?!arraycopy)|\\w+Exact\\b|Thread|Class)");
        none(code, "rule 6", "\\b(throw|throws|try|catch|synchronized|assert|equals|hashCode|toString)\\b");
        none(code, "rule 9, loops without an end", "while \\(true\\)|for \\(;;\\)");
        none(code, "rule 13", "\\b(Random|random|nanoTime|currentTimeMillis|identityHashCode)\\b");
        none(code, "rule 5, static state", "static (?!final\\b)[\\w\\[\\]<>]+ \\w+( =|;)");
        none(code, "rule 1, a private method with a public one's name",
            "private [\\w\\[\\] ]*\\b(" + String.join("|", FACE) + ")\\(");
        CHECK.due("rule 11, at most some twelve classes", found(code, "\\bclass \\w+").size() > MOST_CLASSES ? 1 : 0, 0);
        methodsAreShort(source);
        callsAreShallow(code);
        parametersAndFieldsAreFew();
        CHECK.end();
    }

    private static void none(String code, String rule, String pattern) {
        CHECK.dueText(rule, found(code, pattern).toString(), "[]");
    }

    private static List<String> found(String code, String pattern) {
        List<String> found = new ArrayList<>();
        Matcher matcher = Pattern.compile(pattern).matcher(code);
        while (matcher.find()) {
            found.add(matcher.group());
        }
        return found;
    }

    /** A method (or a block) goes from the line that opens it to the next brace alone at the same indent. */
    private static void methodsAreShort(String source) {
        List<String> lines = Arrays.asList(source.split("\n"));
        for (int first = 0; first < lines.size(); first++) {
            String line = lines.get(first);
            if (line.matches(" {4}( {4})?[\\w\\[\\] ]+\\(.*\\) \\{")) {
                String close = line.replaceAll("\\S.*", "") + "}";
                int size = lines.subList(first, lines.size()).indexOf(close) + 1;
                CHECK.due("rule 11, too long: " + line.trim(), size < 1 || size > LONGEST_METHOD ? 1 : 0, 0);
            }
        }
    }

    /** Methods of one name are taken for one: so a chain may look deeper than it is, and never less deep. */
    private static void callsAreShallow(String code) {
        Map<String, Set<String>> calls = new TreeMap<>();
        String method = "";
        for (String line : code.split("\n")) {
            Matcher head = Pattern.compile("^ {4}(?: {4})?[\\w\\[\\] ]*?(\\w+)\\(.*\\) \\{$").matcher(line);
            boolean isHead = head.matches();
            method = isHead ? head.group(1) : method;
            Set<String> called = calls.computeIfAbsent(method, name -> new TreeSet<>());
            if (!isHead) {
                called.addAll(found(line, "\\w+(?=\\()"));
            }
        }
        for (String name : FACE) {
            CHECK.due("rule 11, calls of " + name + " are known", calls.containsKey(name) ? 1 : 0, 1);
            CHECK.due("rule 11, calls of " + name + " go too deep",
                depth(calls, name, DEEPEST_CALLS + 1) > DEEPEST_CALLS ? 1 : 0, 0);
        }
    }

    /** How many calls stand open at once, at most as many as are looked at: calls in a circle end there. */
    private static int depth(Map<String, Set<String>> calls, String method, int most) {
        int deepest = 0;
        for (String called : calls.getOrDefault(method, Set.of())) {
            if (most > 1 && calls.containsKey(called)) {
                deepest = Math.max(deepest, depth(calls, called, most - 1));
            }
        }
        return deepest + 1;
    }

    private static void parametersAndFieldsAreFew() {
        List<Class<?>> classes = new ArrayList<>(Arrays.asList(BorderRuns.class.getDeclaredClasses()));
        classes.add(BorderRuns.class);
        for (Class<?> one : classes) {
            long fields = Arrays.stream(one.getDeclaredFields()).filter(f -> !Modifier.isStatic(f.getModifiers())).count();
            CHECK.due("rule 11, too many fields in " + one.getName(), fields > MOST_FIELDS ? 1 : 0, 0);
            for (Method method : one.getDeclaredMethods()) {
                CHECK.due("rule 11, too many parameters of " + method,
                    method.getParameterCount() > MOST_PARAMETERS ? 1 : 0, 0);
            }
        }
    }
}
