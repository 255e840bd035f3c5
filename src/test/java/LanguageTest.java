import java.io.IOException;
import java.lang.reflect.Constructor;
import java.lang.reflect.Field;
import java.lang.reflect.Method;
import java.lang.reflect.Modifier;
import java.nio.file.Files;
import java.nio.file.Path;
import java.util.ArrayList;
import java.util.HashSet;
import java.util.List;
import java.util.Set;
import java.util.regex.Matcher;
import java.util.regex.Pattern;

/** The rules of ../shared/LANGUAGE.md that can be seen in the class or in its source. */
public final class LanguageTest {
    private static final Path SOURCE = Path.of("src/main/java/TextVerbs.java");
    private static final String[] NOT_USED = {
        "try", "catch", "finally", "synchronized", "assert", "package", "double", "float", "equals", "hashCode",
        "toString", "getClass", "System", "Object", "Thread", "Random"};

    public static void main(String[] args) throws IOException {
        String code = withoutComments(Files.readString(SOURCE));
        imports(code);
        words(code);
        throwing(code);
        methodsAreShort(code);
        List<Class<?>> classes = allClasses();
        Expect.same("rule 11, too many classes", Math.max(0, classes.size() - 12), 0);
        for (Class<?> one : classes) {
            modifiers(one);
            fields(one);
            parameters(one);
            names(one);
        }
        Expect.end();
    }

    private static String withoutComments(String source) {
        return source.replaceAll("(?s)/\\*.*?\\*/", "").replaceAll("//[^\n]*", "");
    }

    private static List<Class<?>> allClasses() {
        List<Class<?>> classes = new ArrayList<>();
        classes.add(TextVerbs.class);
        for (int k = 0; k < classes.size(); k++) {
            classes.addAll(List.of(classes.get(k).getDeclaredClasses()));
        }
        return classes;
    }

    private static List<String> found(String pattern, String code) {
        List<String> found = new ArrayList<>();
        Matcher matcher = Pattern.compile(pattern).matcher(code);
        while (matcher.find()) {
            found.add(matcher.group());
        }
        return found;
    }

    private static void imports(String code) {
        Expect.same("rule 4, imports", found("import [^;]*;", code).toString(), "[import java.util.Arrays;]");
        Expect.same("rule 4, of Math, Integer and Long",
                found("\\b(Math|Integer|Long|Arrays)\\.\\w+", code).stream().distinct().sorted().toList().toString(),
                "[Arrays.fill, Math.min]");
    }

    private static void words(String code) {
        for (String word : NOT_USED) {
            Expect.same("rules 3 to 6, the word " + word, found("\\b" + word + "\\b", code).size(), 0);
        }
        Expect.same("rule 2, lambdas and method references", found("->|::", code).toString(), "[]");
        Expect.same("rule 5, initialiser blocks", found("static\\s*\\{", code).toString(), "[]");
        Expect.same("rule 10, texts joined by +", found("\"\\s*\\+|\\+\\s*\"", code).toString(), "[]");
    }

    private static void throwing(String code) {
        int inForm = found("throw new Illegal(Argument|State)Exception\\(\"[^\"]*\"\\);", code).size();
        Expect.same("rule 6, throws in their form", inForm, found("\\bthrow\\b", code).size());
    }

    /** A method's lines are those from its opening one to the brace that closes it at the same depth. */
    private static void methodsAreShort(String code) {
        String[] lines = code.split("\n");
        for (int k = 0; k < lines.length; k++) {
            if (lines[k].matches(" {4,8}[\\w\\[\\]]+ .*\\(.*\\).*\\{") && !lines[k].contains(" class ")) {
                String closing = lines[k].replaceAll("\\S.*", "}");
                int end = k + 1;
                while (end < lines.length && !lines[end].equals(closing)) {
                    end++;
                }
                Expect.same("rule 11, too many lines from line " + lines[k].trim(), Math.max(0, end - k - 59), 0);
            }
        }
    }

    private static void modifiers(Class<?> one) {
        boolean inside = one != TextVerbs.class;
        int seen = Modifier.PUBLIC | Modifier.PROTECTED;
        Expect.same("rule 1, " + one + " can be seen", (one.getModifiers() & seen) != 0 ? 1 : 0, inside ? 0 : 1);
        Expect.same("rule 1, " + one + " is static", Modifier.isStatic(one.getModifiers()) ? 1 : 0, inside ? 1 : 0);
    }

    private static void fields(Class<?> one) {
        int own = 0;
        for (Field field : one.getDeclaredFields()) {
            if (Modifier.isStatic(field.getModifiers())) {
                Expect.same("rule 5, " + field, field.getType() + " " + Modifier.isFinal(field.getModifiers()), "int true");
            } else {
                own++;
            }
        }
        Expect.same("rule 11, too many fields of " + one, Math.max(0, own - 20), 0);
    }

    private static void parameters(Class<?> one) {
        for (Method method : one.getDeclaredMethods()) {
            Expect.same("rule 11, too many for " + method, Math.max(0, method.getParameterCount() - 7), 0);
        }
        for (Constructor<?> made : one.getDeclaredConstructors()) {
            Expect.same("rule 11, too many for " + made, Math.max(0, made.getParameterCount() - 7), 0);
        }
    }

    private static void names(Class<?> one) {
        Set<String> face = new HashSet<>();
        for (Method method : TextVerbs.class.getMethods()) {
            face.add(method.getName());
        }
        for (Method method : one.getDeclaredMethods()) {
            boolean ofTheFace = one == TextVerbs.class && Modifier.isPublic(method.getModifiers());
            Expect.same("rule 1, the name of " + method, face.contains(method.getName()) ? 1 : 0, ofTheFace ? 1 : 0);
        }
    }
}
