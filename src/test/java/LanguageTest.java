import java.io.IOException;
import java.nio.file.Files;
import java.nio.file.Path;
import java.util.ArrayList;
import java.util.Arrays;
import java.util.List;
import java.util.regex.Matcher;
import java.util.regex.Pattern;

/** Those rules of LANGUAGE.md, by number, that the words of the program show. It is run at the project's root. */
public final class LanguageTest {
    private static final Check CHECK = new Check("LanguageTest");
    private static final int LONGEST_METHOD = 60;
    private static final int MOST_CLASSES = 12;
    private static final String[] FACE = {"add", "drop", "change", "reverse", "turn", "fold", "load", "type",
        "clearText", "undo", "keep", "restore", "at", "border", "factor", "alike", "suffix", "square", "run",
        "unlike", "ifLetter", "bestLetter", "count"};

    public static void main(String[] args) throws IOException {
        String source = Files.readString(Path.of("src/main/java/BorderRuns.java"));
        String code = source.replaceAll("(?s)/\\*.*?\\*/", "").replaceAll("//[^\n]*", "");
        CHECK.due("signs that are not 1 to 127", source.chars().filter(c -> c < 1 || c > 127).count(), 0);
        none(code, "rule 1, package and library", "\\b(package|import|java\\.)");
        none(code, "rule 2, lambda or method reference", "->|::");
        none(code, "rule 4, what is not listed", "\\b(System\\.(?!arraycopy)|\\w+Exact\\b|Thread|Class)");
        none(code, "rule 6", "\\b(throw|throws|try|catch|synchronized|assert|equals|hashCode|toString)\\b");
        none(code, "rule 9, loops without an end", "while \\(true\\)|for \\(;;\\)");
        none(code, "rule 13", "\\b(Random|random|nanoTime|currentTimeMillis|identityHashCode)\\b");
        none(code, "rule 5, static state", "static (?!final\\b)[\\w\\[\\]<>]+ \\w+( =|;)");
        none(code, "rule 1, a private method with a public one's name",
            "private [\\w\\[\\] ]*\\b(" + String.join("|", FACE) + ")\\(");
        CHECK.due("rule 11, at most some twelve classes", found(code, "\\bclass \\w+").size() > MOST_CLASSES ? 1 : 0, 0);
        methodsAreShort(source);
        CHECK.end();
    }

    private static void none(String code, String rule, String pattern) {
        CHECK.dueText(rule, found(code, pattern).toString(), "[]");
    }

    private static List<String> found(String code, String pattern) {
        List<String> found = new ArrayList<>();
        Matcher matcher = Pattern.compile(pattern).matcher(code);
        while (matcher.find()) {
            found.add(matcher.group());
        }
        return found;
    }

    /** A method (or a block) goes from the line that opens it to the next brace alone at the same indent. */
    private static void methodsAreShort(String source) {
        List<String> lines = Arrays.asList(source.split("\n"));
        for (int first = 0; first < lines.size(); first++) {
            String line = lines.get(first);
            if (line.matches(" {4}( {4})?[\\w\\[\\] ]+\\(.*\\) \\{")) {
                String close = line.replaceAll("\\S.*", "") + "}";
                int size = lines.subList(first, lines.size()).indexOf(close) + 1;
                CHECK.due("rule 11, too long: " + line.trim(), size < 1 || size > LONGEST_METHOD ? 1 : 0, 0);
            }
        }
    }
}
