import java.io.IOException;
import java.nio.file.Files;
import java.nio.file.Path;
import java.util.ArrayList;
import java.util.List;

/** The examples of README.md answer what README.md says, and stand there as they stand here. */
public final class ReadmeTest {
    private static final Path README = Path.of("README.md");
    private static final Path TEST = Path.of("src/test/java/ReadmeTest.java");

    public static void main(String[] args) throws IOException {
        TextVerbs verbs = new TextVerbs();
        int line = textOf(verbs, "007;a,b,c");
        int zero = textOf(verbs, "0");
        int comma = textOf(verbs, ",");
        int semicolon = textOf(verbs, ";");
        int blank = verbs.text(1);

        verbs.tally(1, comma, 0);
        verbs.replace(2, zero, blank);
        verbs.span(true, semicolon);
        verbs.replace(3, comma, semicolon);
        int replaced = verbs.inspect(line);
        Expect.same("replaced", replaced, 3);
        Expect.holds("line", verbs, line, "  7;a;b,c");
        int commas = verbs.counter(0);
        Expect.same("commas", commas, 2);
        Expect.same("the counter then", verbs.counter(0), 0);

        int small = textOf(verbs, "abc");
        int large = textOf(verbs, "ABC");
        verbs.span(false, comma);
        int converted = verbs.convert(line, small, large);
        Expect.same("converted", converted, 2);
        Expect.holds("line", verbs, line, "  7;A;B,c");

        int name = textOf(verbs, "ann lee");
        int greeting = verbs.text(8);
        verbs.part(name, blank);
        verbs.part(comma, TextVerbs.NONE);
        int behind = verbs.join(greeting, 2);
        Expect.same("behind", behind, 6);
        Expect.holds("greeting", verbs, greeting, " ann,   ");

        int list = textOf(verbs, "one,,two");
        int first = verbs.text(2);
        int second = verbs.text(5);
        verbs.delimiter(comma, true);
        verbs.receiver(first);
        verbs.receiver(second);
        int end = verbs.split(list, 1);
        Expect.same("end", end, 9);
        Expect.holds("first", verbs, first, "on");
        Expect.holds("second", verbs, second, "two  ");
        int signs = verbs.result(0, 0);
        Expect.same("signs", signs, 3);
        int which = verbs.result(0, 1);
        Expect.same("which", which, 0);
        int pointer = verbs.pointer();
        Expect.same("pointer", pointer, 9);

        int prices = verbs.table(3);
        verbs.row(prices, 1, 30);
        verbs.row(prices, 2, 10);
        verbs.row(prices, 3, 20);
        verbs.sort(prices, false);
        int binary = verbs.search(prices, true, 30);
        Expect.same("binary", binary, 3);
        int serial = verbs.search(prices, false, 10);
        Expect.same("serial", serial, 0);
        int index = verbs.index(prices, 1);
        Expect.same("index", index, 3);

        examplesStandHere();
        Expect.end();
    }

    static int textOf(TextVerbs verbs, String signs) {
        int number = verbs.text(signs.length());
        for (int i = 0; i < signs.length(); i++) {
            verbs.set(number, i, signs.charAt(i));
        }
        return number;
    }

    private static void examplesStandHere() throws IOException {
        List<String> here = new ArrayList<>();
        for (String line : Files.readAllLines(TEST)) {
            here.add(line.trim());
        }
        List<String> examples = exampleLines();
        Expect.same("README.md has examples", examples.isEmpty() ? 0 : 1, 1);
        for (String line : examples) {
            Expect.same("a line of README.md here: " + line, here.contains(line) ? 1 : 0, 1);
        }
    }

    private static List<String> exampleLines() throws IOException {
        List<String> lines = new ArrayList<>();
        boolean inExample = false;
        for (String line : Files.readAllLines(README)) {
            if (line.startsWith("```")) {
                inExample = line.equals("```java");
            } else if (inExample && !line.isBlank()) {
                lines.add(line.replaceAll("//.*", "").trim());
            }
        }
        return lines;
    }
}
