import java.lang.reflect.Constructor;
import java.lang.reflect.Field;
import java.lang.reflect.Method;
import java.lang.reflect.Modifier;
import java.util.Arrays;
import java.util.TreeSet;

/** The public face is the document's, and nothing else can be seen from outside. */
public final class FaceTest {
    private static final String ARGUMENT = " IllegalArgumentException";
    private static final String BOTH = " IllegalArgumentException IllegalStateException";
    private static final String[] METHODS = {
        "int text(int)" + BOTH, "void set(int, int, int)" + ARGUMENT, "int at(int, int)" + ARGUMENT,
        "void span(boolean, int)" + ARGUMENT, "int tally(int, int, int)" + BOTH, "int replace(int, int, int)" + BOTH,
        "int inspect(int)" + ARGUMENT, "int convert(int, int, int)" + ARGUMENT, "int counter(int)" + ARGUMENT,
        "int part(int, int)" + BOTH, "int join(int, int)" + ARGUMENT, "int delimiter(int, boolean)" + BOTH,
        "int receiver(int)" + BOTH, "int split(int, int)" + ARGUMENT, "int result(int, int)", "int pointer()",
        "int table(int)" + BOTH, "int row(int, int, int)" + ARGUMENT, "int index(int, int)" + ARGUMENT,
        "int search(int, boolean, int)" + ARGUMENT, "void sort(int, boolean)" + ARGUMENT};

    public static void main(String[] args) {
        Expect.same("modifiers of the class", TextVerbs.class.getModifiers(), Modifier.PUBLIC | Modifier.FINAL);
        Expect.same("NONE", TextVerbs.NONE, -1);
        Expect.same("methods", seenMethods().toString(), new TreeSet<>(Arrays.asList(METHODS)).toString());
        Expect.same("fields", seenFields().toString(), "[NONE]");
        Constructor<?>[] constructors = TextVerbs.class.getDeclaredConstructors();
        Expect.same("constructors", constructors.length, 1);
        Expect.same("modifiers of the constructor", constructors[0].getModifiers(), Modifier.PUBLIC);
        Expect.same("parameters of the constructor", constructors[0].getParameterCount(), 0);
        Expect.end();
    }

    private static TreeSet<String> seenMethods() {
        TreeSet<String> seen = new TreeSet<>();
        for (Method method : TextVerbs.class.getDeclaredMethods()) {
            if (!Modifier.isPrivate(method.getModifiers())) {
                StringBuilder words = new StringBuilder();
                for (Class<?> type : method.getParameterTypes()) {
                    words.append(words.length() == 0 ? "" : ", ").append(type);
                }
                words.append(")");
                for (Class<?> thrown : method.getExceptionTypes()) {
                    words.append(" ").append(thrown.getSimpleName());
                }
                seen.add(method.getReturnType() + " " + method.getName() + "(" + words);
            }
        }
        return seen;
    }

    private static TreeSet<String> seenFields() {
        TreeSet<String> seen = new TreeSet<>();
        for (Field field : TextVerbs.class.getDeclaredFields()) {
            if (!Modifier.isPrivate(field.getModifiers())) {
                seen.add(field.getName());
            }
        }
        return seen;
    }
}
