import java.lang.reflect.Constructor;
import java.lang.reflect.Field;
import java.lang.reflect.Method;
import java.lang.reflect.Modifier;
import java.util.Arrays;
import java.util.TreeSet;

/** "The public face": the class has just the members of the document. */
public final class FaceTest {
    private static final Check CHECK = new Check("FaceTest");
    private static final String[] METHODS = {
        "int add(int)", "int drop(int)", "int change(int, int)", "int reverse()", "int turn(int)",
        "int fold(int, int)", "int load()", "int type(char)", "int clearText()", "int undo()", "int keep()",
        "int restore()", "int at(int, int)", "int border(int, int)", "int factor(int, int, int)",
        "int alike(int, int)", "int suffix(int)", "int square(int, int)", "int run(int, int)", "int unlike(int)",
        "int ifLetter(int, int)", "int bestLetter(int)", "int count(int)"};
    private static final String[] CONSTANTS = {"BAD_VALUE = -2", "FULL = -3", "NONE = -4", "UNKNOWN = -1"};

    public static void main(String[] args) throws IllegalAccessException {
        CHECK.dueText("the class", Modifier.toString(BorderRuns.class.getModifiers()), "public final");
        Constructor<?>[] constructors = BorderRuns.class.getDeclaredConstructors();
        CHECK.due("constructors", constructors.length, 1);
        CHECK.dueText("the constructor", constructors[0].toString(), "public BorderRuns()");
        CHECK.dueText("methods", methods().toString(), new TreeSet<>(Arrays.asList(METHODS)).toString());
        CHECK.dueText("constants", constants().toString(), Arrays.toString(CONSTANTS));
        for (Class<?> inside : BorderRuns.class.getDeclaredClasses()) {
            int modifiers = inside.getModifiers();
            CHECK.due(inside.getName() + " is static and not public",
                Modifier.isStatic(modifiers) && !Modifier.isPublic(modifiers) && !Modifier.isProtected(modifiers) ? 1 : 0, 1);
        }
        CHECK.end();
    }

    private static TreeSet<String> methods() {
        TreeSet<String> found = new TreeSet<>();
        for (Method method : BorderRuns.class.getDeclaredMethods()) {
            if (!Modifier.isPrivate(method.getModifiers())) {
                String types = Arrays.toString(method.getParameterTypes());
                found.add(method.getReturnType() + " " + method.getName() + "(" + types.substring(1, types.length() - 1) + ")");
                CHECK.dueText(method.getName(), Modifier.toString(method.getModifiers()), "public");
            }
        }
        return found;
    }

    private static TreeSet<String> constants() throws IllegalAccessException {
        TreeSet<String> found = new TreeSet<>();
        for (Field field : BorderRuns.class.getDeclaredFields()) {
            if (!Modifier.isPrivate(field.getModifiers())) {
                CHECK.dueText(field.getName(), Modifier.toString(field.getModifiers()), "public static final");
                found.add(field.getName() + " = " + field.getInt(null));
            }
        }
        return found;
    }
}
