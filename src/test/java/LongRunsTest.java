import java.util.Random;
import java.util.function.IntSupplier;

/** Long runs of calls, wrong ones among them: each answers, or throws, what the plain model does. */
public final class LongRunsTest {
    private static final int RUNS = 4000;
    /** The document promises 512 calls; a step makes 61 of them at the most. */
    private static final int CALLS = 512 - 61;
    private static final int[] FAR = {-1, -2, 40, 60, 61, 255, 256, Integer.MIN_VALUE, Integer.MAX_VALUE};

    private final Random random;
    private final TextVerbs verbs = new TextVerbs();
    private final Model model = new Model();
    private final int longest;
    private final int[] sizes = new int[40];
    private int textCount;
    private int tableCount;
    private int calls;

    private LongRunsTest(long seed) {
        random = new Random(seed);
        longest = random.nextInt(3) == 0 ? 60 : 8;
    }

    public static void main(String[] args) {
        for (int run = 0; run < RUNS; run++) {
            if (!new LongRunsTest(run).agrees(run)) {
                break;
            }
        }
        Expect.end();
    }

    private boolean agrees(int run) {
        while (calls < CALLS) {
            String[] answers = calls < 60 && random.nextBoolean() ? makeText() : step(random.nextInt(24));
            calls++;
            if (!answers[0].equals(answers[1])) {
                Expect.same("run " + run + ", " + answers[2], answers[0], answers[1]);
                return false;
            }
        }
        Expect.same("calls of run " + run + " beyond 512", Math.max(0, calls - 512), 0);
        return true;
    }

    private static String answer(IntSupplier call) {
        try {
            return Integer.toString(call.getAsInt());
        } catch (RuntimeException e) {
            return "throws " + e.getClass().getSimpleName();
        }
    }

    private static String[] both(String words, IntSupplier got, IntSupplier due) {
        return new String[] {answer(got), answer(due), words};
    }

    private int any(int first, int behind) {
        if (random.nextInt(40) == 0) {
            return FAR[random.nextInt(FAR.length)];
        }
        return behind <= first ? first : first + random.nextInt(behind - first);
    }

    private int anyText() {
        return any(0, textCount);
    }

    private String[] makeText() {
        int size = random.nextInt(3) == 0 ? any(0, longest + 1) : any(0, 3);
        String[] answers = both("text " + size, () -> verbs.text(size), () -> model.text(size));
        if (!answers[0].startsWith("throws")) {
            for (int i = 0; i < size; i++) {
                int sign = 'a' + random.nextInt(2);
                verbs.set(textCount, i, sign);
                model.set(textCount, i, sign);
            }
            calls += size;
            sizes[textCount] = size;
            textCount++;
        }
        return answers;
    }

    private String[] makeTable() {
        int rows = any(1, random.nextBoolean() ? 61 : 8);
        String[] answers = both("table " + rows, () -> verbs.table(rows), () -> model.table(rows));
        if (!answers[0].startsWith("throws")) {
            tableCount++;
        }
        return answers;
    }

    private String[] step(int choice) {
        int text = anyText();
        int from = anyText();
        int to = anyText();
        int place = any(0, longest);
        boolean flag = random.nextBoolean();
        String words = choice + " " + text + " " + from + " " + to + " " + place + " " + flag;
        switch (choice) {
            case 0:
                return random.nextInt(4) == 0 ? makeText() : readText(text);
            case 1:
                int sign = any('a', 'c');
                return both("set " + words + " " + sign, () -> {
                    verbs.set(text, place, sign);
                    return 0;
                }, () -> model.set(text, place, sign));
            case 2:
                return both("at " + words, () -> verbs.at(text, place), () -> model.at(text, place));
            case 3:
                return readText(text);
            case 4:
            case 5:
                return both("span " + words, () -> {
                    verbs.span(flag, text);
                    return 0;
                }, () -> model.span(flag, text));
            case 6:
            case 7:
            case 8:
            case 9:
                return phrase(words, from, to);
            case 10:
                return both("inspect " + words, () -> verbs.inspect(text), () -> model.inspect(text));
            case 11:
                return both("convert " + words, () -> verbs.convert(text, from, to),
                        () -> model.convert(text, from, to));
            case 12:
                int k = any(0, 10);
                return both("counter " + k, () -> verbs.counter(k), () -> model.counter(k));
            default:
                return stringStep(choice, words, text, from, flag);
        }
    }

    private String[] phrase(String words, int from, int to) {
        int kind = any(0, 4);
        int counter = any(0, 10);
        if (random.nextBoolean()) {
            return both("tally " + kind + " " + counter + " " + words, () -> verbs.tally(kind, from, counter),
                    () -> model.tally(kind, from, counter));
        }
        return both("replace " + kind + " " + words, () -> verbs.replace(kind, from, to),
                () -> model.replace(kind, from, to));
    }

    private String[] stringStep(int choice, String words, int text, int from, boolean flag) {
        int start = any(1, random.nextBoolean() ? 2 : 6);
        int limit = random.nextBoolean() ? TextVerbs.NONE : text;
        int what = any(0, 2);
        switch (choice) {
            case 13:
            case 14:
                return both("part " + words, () -> verbs.part(from, limit), () -> model.part(from, limit));
            case 15:
                return both("join " + start + " " + words, () -> verbs.join(text, start),
                        () -> model.join(text, start));
            case 16:
                return both("delimiter " + words, () -> verbs.delimiter(text, flag),
                        () -> model.delimiter(text, flag));
            case 17:
            case 18:
                return both("receiver " + words, () -> verbs.receiver(text), () -> model.receiver(text));
            case 19:
                return both("split " + start + " " + words, () -> verbs.split(text, start),
                        () -> model.split(text, start));
            case 20:
                return both("result " + start + " " + what, () -> verbs.result(start - 1, what),
                        () -> model.result(start - 1, what));
            case 21:
                return both("pointer", verbs::pointer, model::pointer);
            default:
                return tableStep(flag);
        }
    }

    private String[] tableStep(boolean flag) {
        int table = any(0, tableCount);
        int row = any(1, 9);
        int key = any(-2, 6);
        String words = table + " " + row + " " + key + " " + flag;
        switch (random.nextInt(8)) {
            case 0:
                return makeTable();
            case 1:
            case 2:
            case 3:
                return both("row " + words, () -> verbs.row(table, row, key), () -> model.row(table, row, key));
            case 4:
                return both("index " + words, () -> verbs.index(table, row), () -> model.index(table, row));
            case 5:
                return both("sort " + words, () -> {
                    verbs.sort(table, flag);
                    return 0;
                }, () -> model.sort(table, flag));
            default:
                return both("search " + words, () -> verbs.search(table, flag, key),
                        () -> model.search(table, flag, key));
        }
    }

    private String[] readText(int text) {
        StringBuilder got = new StringBuilder();
        StringBuilder due = new StringBuilder();
        int size = text < 0 || text >= textCount ? 0 : sizes[text];
        for (int i = 0; i < size; i++) {
            got.append((char) verbs.at(text, i));
            due.append((char) model.at(text, i));
        }
        calls += size;
        return new String[] {got.toString(), due.toString(), "text " + text};
    }
}
