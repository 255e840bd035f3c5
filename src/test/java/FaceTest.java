import java.lang.reflect.Constructor;
import java.lang.reflect.Field;
import java.lang.reflect.Method;
import java.lang.reflect.Modifier;
import java.util.Arrays;
import java.util.TreeSet;

/** The public face is the document's, and nothing else can be seen from outside. */
public final class FaceTest {
    private static final String[] METHODS = {
        "int text(int)", "void set(int, int, int)", "int at(int, int)", "void span(boolean, int)",
        "int tally(int, int, int)", "int replace(int, int, int)", "int inspect(int)",
        "int convert(int, int, int)", "int counter(int)", "int part(int, int)", "int join(int, int)",
        "int delimiter(int, boolean)", "int receiver(int)", "int split(int, int)", "int result(int, int)",
        "int pointer()", "int table(int)", "int row(int, int, int)", "int index(int, int)",
        "int search(int, boolean, int)", "void sort(int, boolean)"};

    public static void main(String[] args) {
        Expect.same("modifiers of the class", TextVerbs.class.getModifiers(), Modifier.PUBLIC | Modifier.FINAL);
        Expect.same("NONE", TextVerbs.NONE, -1);
        Expect.same("methods", seenMethods().toString(), new TreeSet<>(Arrays.asList(METHODS)).toString());
        Expect.same("fields", seenFields().toString(), "[NONE]");
        Constructor<?>[] constructors = TextVerbs.class.getDeclaredConstructors();
        Expect.same("constructors", constructors.length, 1);
        Expect.same("modifiers of the constructor", constructors[0].getModifiers(), Modifier.PUBLIC);
        Expect.same("parameters of the constructor", constructors[0].getParameterCount(), 0);
        Expect.end();
    }

    private static TreeSet<String> seenMethods() {
        TreeSet<String> seen = new TreeSet<>();
        for (Method method : TextVerbs.class.getDeclaredMethods()) {
            if (!Modifier.isPrivate(method.getModifiers())) {
                StringBuilder words = new StringBuilder();
                for (Class<?> type : method.getParameterTypes()) {
                    words.append(words.length() == 0 ? "" : ", ").append(type);
                }
                seen.add(method.getReturnType() + " " + method.getName() + "(" + words + ")");
            }
        }
        return seen;
    }

    private static TreeSet<String> seenFields() {
        TreeSet<String> seen = new TreeSet<>();
        for (Field field : TextVerbs.class.getDeclaredFields()) {
            if (!Modifier.isPrivate(field.getModifiers())) {
                seen.add(field.getName());
            }
        }
        return seen;
    }
}
