import java.io.IOException;
import java.lang.reflect.Field;
import java.lang.reflect.Method;
import java.lang.reflect.Modifier;
import java.nio.file.Files;
import java.nio.file.Path;
import java.util.List;
import java.util.TreeSet;
import java.util.regex.Matcher;
import java.util.regex.Pattern;
import java.util.stream.Collectors;
import java.util.stream.Stream;

/** README.md names every call, every constant and every test, and no other test. It is run at the project's root. */
public final class ReadmeTest {
    private static final Check CHECK = new Check("ReadmeTest");

    public static void main(String[] args) throws IOException {
        String page = Files.readString(Path.of("README.md"));
        for (Method method : BorderRuns.class.getDeclaredMethods()) {
            if (Modifier.isPublic(method.getModifiers())) {
                CHECK.due("an example of " + method.getName(), page.contains("runs." + method.getName() + "(") ? 1 : 0, 1);
            }
        }
        for (Field field : BorderRuns.class.getFields()) {
            CHECK.due("the constant " + field.getName(), page.contains("`" + field.getName() + "`") ? 1 : 0, 1);
        }
        CHECK.dueText("the tests in the table", testsOf(page).toString(), tests().toString());
        CHECK.end();
    }

    private static TreeSet<String> testsOf(String page) {
        TreeSet<String> named = new TreeSet<>();
        Matcher row = Pattern.compile("(?m)^\\| ((\\w+Test(, )?)+) \\|").matcher(page);
        while (row.find()) {
            named.addAll(List.of(row.group(1).split(", ")));
        }
        return named;
    }

    private static TreeSet<String> tests() throws IOException {
        try (Stream<Path> files = Files.list(Path.of("src/test/java"))) {
            return files.map(file -> file.getFileName().toString()).filter(name -> name.endsWith("Test.java"))
                .map(name -> name.substring(0, name.length() - ".java".length()))
                .collect(Collectors.toCollection(TreeSet::new));
        }
    }
}
