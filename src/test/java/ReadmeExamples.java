import java.io.IOException;
import java.nio.file.Files;
import java.nio.file.Path;
import java.util.regex.Matcher;
import java.util.regex.Pattern;

/**
 * Writes a program from the java blocks of README.md: each call with a number behind it must answer
 * it. It is run at the project's root, and .ci/run compiles and runs what it writes.
 */
public final class ReadmeExamples {
    private static final Pattern BLOCK = Pattern.compile("(?s)```java\n(.*?)```");
    private static final Pattern CALL = Pattern.compile("(?m)^(runs\\.\\w+\\(.*?\\));\\s*// (-?\\d+)\\b.*$");

    public static void main(String[] args) throws IOException {
        StringBuilder program = new StringBuilder("public final class ReadmeProgram {\n"
            + "private static final Check CHECK = new Check(\"README.md\");\n"
            + "public static void main(String[] args) {\n");
        Matcher block = BLOCK.matcher(Files.readString(Path.of("README.md")));
        while (block.find()) {
            program.append("{\n").append(judged(block.group(1))).append("}\n");
        }
        System.out.print(program.append("CHECK.end();\n}\n}\n"));
    }

    private static String judged(String block) {
        return CALL.matcher(block).replaceAll(call -> Matcher.quoteReplacement(
            "CHECK.due(\"" + call.group(1) + "\", " + call.group(1) + ", " + call.group(2) + ");"));
    }
}
