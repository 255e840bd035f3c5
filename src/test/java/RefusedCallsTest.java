import java.util.ArrayList;
import java.util.List;

/**
 * Every call that the document refuses, on an object in which everything is collected, told and found already, and
 * once more on one in which everything is full: it throws, and all calls behind it answer as if it had not been made.
 */
public final class RefusedCallsTest {
    private static final int NONE = TextVerbs.NONE;
    private static final int LEAST = Integer.MIN_VALUE;
    private static final int GREATEST = Integer.MAX_VALUE;

    private static final int LINE = 0;
    private static final int EMPTY = 1;
    private static final int A = 2;
    private static final int B = 3;
    private static final int XY = 4;
    private static final int INTO = 5;
    private static final int COMMA = 6;
    private static final int LIST = 7;
    private static final int ONE = 8;
    private static final int TWO = 9;
    private static final int TEXTS = 10;

    private interface Use {
        void of(TextVerbs verbs);
    }

    private static final class Refused {
        final int promise;
        final String words;
        final Use use;

        Refused(int promise, String words, Use use) {
            this.promise = promise;
            this.words = words;
            this.use = use;
        }
    }

    private static final List<Refused> WRONG = new ArrayList<>();
    private static final List<Refused> TOO_MANY = new ArrayList<>();

    public static void main(String[] args) {
        for (int number : new int[] {-1, -2, 40, 41, LEAST, GREATEST}) {
            listWrongTexts(number);
        }
        for (int number : new int[] {-1, 10, 11, LEAST, GREATEST}) {
            listWrongTables(number);
        }
        listWrongSizes();
        listWrongPlaces();
        listWrongPhrases();
        listEmptyTexts();
        listTooMany();
        eachAlone();
        allOneAfterTheOther();
        Expect.end();
    }

    private static void wrong(int promise, String words, Use use) {
        WRONG.add(new Refused(promise, words, use));
    }

    private static void tooMany(int promise, String words, Use use) {
        TOO_MANY.add(new Refused(promise, words, use));
    }

    private static void listWrongTexts(int number) {
        String words = "text " + number;
        wrong(3, words, verbs -> verbs.set(number, 0, 65));
        wrong(4, words, verbs -> verbs.at(number, 0));
        wrong(5, "after " + words, verbs -> verbs.span(true, number));
        wrong(5, "before " + words, verbs -> verbs.span(false, number));
        wrong(6, "ALL " + words, verbs -> verbs.tally(1, number, 0));
        wrong(6, "LEADING " + words, verbs -> verbs.tally(2, number, 0));
        wrong(7, "ALL " + words, verbs -> verbs.replace(1, number, A));
        wrong(7, "LEADING " + words, verbs -> verbs.replace(2, number, A));
        wrong(7, "FIRST " + words, verbs -> verbs.replace(3, number, A));
        wrong(7, "by " + words, verbs -> verbs.replace(1, A, number));
        wrong(7, "CHARACTERS by " + words, verbs -> verbs.replace(0, A, number));
        wrong(8, words, verbs -> verbs.inspect(number));
        wrong(9, words, verbs -> verbs.convert(number, A, B));
        wrong(9, "from " + words, verbs -> verbs.convert(LINE, number, B));
        wrong(9, "to " + words, verbs -> verbs.convert(LINE, A, number));
        wrong(11, words, verbs -> verbs.part(number, NONE));
        if (number != NONE) {
            wrong(11, "up to " + words, verbs -> verbs.part(LINE, number));
        }
        wrong(12, words, verbs -> verbs.join(number, 1));
        wrong(12, words + " from no place", verbs -> verbs.join(number, 0));
        wrong(13, words, verbs -> verbs.delimiter(number, true));
        wrong(14, words, verbs -> verbs.receiver(number));
        wrong(15, words, verbs -> verbs.split(number, 1));
        wrong(15, words + " from no place", verbs -> verbs.split(number, 0));
    }

    private static void listWrongTables(int number) {
        String words = "table " + number;
        wrong(19, words, verbs -> verbs.row(number, 1, 9));
        wrong(20, words, verbs -> verbs.index(number, 1));
        wrong(21, "serial, " + words, verbs -> verbs.search(number, false, 3));
        wrong(21, "binary, " + words, verbs -> verbs.search(number, true, 3));
        wrong(22, "upwards, " + words, verbs -> verbs.sort(number, false));
        wrong(22, "down, " + words, verbs -> verbs.sort(number, true));
    }

    private static void listWrongSizes() {
        for (int size : new int[] {-1, 61, LEAST, GREATEST}) {
            wrong(2, "size " + size, verbs -> verbs.text(size));
        }
        for (int rows : new int[] {-1, 0, 61, LEAST, GREATEST}) {
            wrong(18, rows + " rows", verbs -> verbs.table(rows));
        }
    }

    private static void listWrongPlaces() {
        for (int place : new int[] {-1, 5, 60, LEAST, GREATEST}) {
            wrong(3, "place " + place, verbs -> verbs.set(LINE, place, 65));
            wrong(4, "place " + place, verbs -> verbs.at(LINE, place));
        }
        wrong(3, "a place of an empty text", verbs -> verbs.set(EMPTY, 0, 65));
        wrong(4, "a place of an empty text", verbs -> verbs.at(EMPTY, 0));
        for (int sign : new int[] {-1, 256, LEAST, GREATEST}) {
            wrong(3, "sign " + sign, verbs -> verbs.set(LINE, 0, sign));
        }
        for (int row : new int[] {-1, 0, 4, 60, LEAST, GREATEST}) {
            wrong(19, "row " + row, verbs -> verbs.row(0, row, 9));
            wrong(20, "row " + row, verbs -> verbs.index(0, row));
        }
        for (int k : new int[] {-1, 10, LEAST, GREATEST}) {
            wrong(10, "counter " + k, verbs -> verbs.counter(k));
        }
    }

    private static void listWrongPhrases() {
        for (int kind : new int[] {-1, 3, 4, LEAST, GREATEST}) {
            wrong(6, "kind " + kind, verbs -> verbs.tally(kind, A, 0));
        }
        for (int kind : new int[] {-1, 4, LEAST, GREATEST}) {
            wrong(7, "kind " + kind, verbs -> verbs.replace(kind, A, B));
        }
        for (int k : new int[] {-1, 10, LEAST, GREATEST}) {
            wrong(6, "ALL, counter " + k, verbs -> verbs.tally(1, A, k));
            wrong(6, "CHARACTERS, counter " + k, verbs -> verbs.tally(0, A, k));
        }
        for (int kind = 1; kind <= 3; kind++) {
            int asked = kind;
            wrong(7, "kind " + kind + " by a longer one", verbs -> verbs.replace(asked, A, XY));
            wrong(7, "kind " + kind + " by a shorter one", verbs -> verbs.replace(asked, XY, A));
        }
        wrong(7, "CHARACTERS by two signs", verbs -> verbs.replace(0, XY, XY));
        wrong(7, "CHARACTERS by no sign", verbs -> verbs.replace(0, A, EMPTY));
        wrong(9, "to a longer one", verbs -> verbs.convert(LINE, A, XY));
        wrong(9, "to a shorter one", verbs -> verbs.convert(LINE, XY, A));
    }

    private static void listEmptyTexts() {
        wrong(5, "after an empty text", verbs -> verbs.span(true, EMPTY));
        wrong(5, "before an empty text", verbs -> verbs.span(false, EMPTY));
        wrong(6, "ALL of an empty text", verbs -> verbs.tally(1, EMPTY, 0));
        wrong(6, "LEADING of an empty text", verbs -> verbs.tally(2, EMPTY, 0));
        for (int kind = 1; kind <= 3; kind++) {
            int asked = kind;
            wrong(7, "kind " + kind + " of an empty text", verbs -> verbs.replace(asked, EMPTY, EMPTY));
        }
        wrong(11, "up to an empty text", verbs -> verbs.part(LINE, EMPTY));
        wrong(13, "an empty text", verbs -> verbs.delimiter(EMPTY, false));
    }

    private static void listTooMany() {
        tooMany(2, "the 41st text", verbs -> verbs.text(1));
        tooMany(6, "the 21st phrase", verbs -> verbs.tally(1, A, 0));
        tooMany(6, "the 21st phrase, CHARACTERS", verbs -> verbs.tally(0, NONE, 0));
        tooMany(7, "the 21st phrase", verbs -> verbs.replace(1, A, B));
        tooMany(7, "the 21st phrase, CHARACTERS", verbs -> verbs.replace(0, NONE, B));
        tooMany(11, "the 21st part", verbs -> verbs.part(XY, NONE));
        tooMany(13, "the 9th delimiter", verbs -> verbs.delimiter(A, true));
        tooMany(14, "the 21st receiver", verbs -> verbs.receiver(LINE));
        tooMany(18, "the 11th table", verbs -> verbs.table(1));
    }

    /** Everything is there: two phrases, a span for the next one, two parts, a delimiter, a receiver, a table. */
    private static TextVerbs standing() {
        TextVerbs verbs = new TextVerbs();
        for (String signs : new String[] {"abcab", "", "a", "b", "xy", "......", ",", "p,q", " ", " "}) {
            Expect.text(verbs, signs);
        }
        verbs.tally(0, NONE, 4);
        verbs.inspect(XY);
        verbs.part(XY, NONE);
        verbs.join(INTO, 5);
        verbs.delimiter(COMMA, false);
        verbs.receiver(TWO);
        verbs.split(LIST, 1);
        verbs.span(true, B);
        verbs.tally(1, B, 0);
        verbs.replace(1, B, COMMA);
        verbs.span(true, A);
        verbs.part(XY, NONE);
        verbs.part(LIST, COMMA);
        verbs.delimiter(COMMA, false);
        verbs.receiver(ONE);
        verbs.table(3);
        verbs.row(0, 1, 3);
        verbs.row(0, 2, 1);
        verbs.row(0, 3, 2);
        verbs.index(0, 2);
        return verbs;
    }

    /** The same, and nothing more has room; the span is told behind the last phrase, to wait for the next one. */
    private static TextVerbs full() {
        TextVerbs verbs = standing();
        for (int k = TEXTS; k < 40; k++) {
            verbs.text(1);
        }
        for (int k = 2; k < 20; k++) {
            verbs.tally(1, COMMA, 9);
        }
        verbs.span(true, A);
        for (int k = 2; k < 20; k++) {
            verbs.part(EMPTY, NONE);
        }
        for (int k = 1; k < 8; k++) {
            verbs.delimiter(B, true);
        }
        for (int k = 1; k < 20; k++) {
            verbs.receiver(TWO);
        }
        for (int k = 1; k < 10; k++) {
            verbs.table(1);
        }
        return verbs;
    }

    private static void answersStanding(String what, TextVerbs verbs) {
        answersOfEarlierActs(what, verbs);
        Expect.same(what + ", the third phrase", verbs.tally(0, NONE, 5), 3);
        Expect.same(what + ", inspect", verbs.inspect(LINE), 2);
        Expect.holds(what + ", inspected", verbs, LINE, "a,ca,");
        counters(what, verbs, 1, 0, 0, 0, 2, 3, 0, 0, 0, 0);
        Expect.same(what + ", the third part", verbs.part(B, NONE), 3);
        Expect.same(what + ", join", verbs.join(INTO, 1), 5);
        Expect.holds(what + ", joined", verbs, INTO, "xypbxy");
        Expect.same(what + ", the second delimiter", verbs.delimiter(B, true), 2);
        Expect.same(what + ", the second receiver", verbs.receiver(TWO), 2);
        answersOfSplitAndTable(what, verbs);
        Expect.same(what + ", the next text", verbs.text(1), TEXTS);
        Expect.same(what + ", the next table", verbs.table(1), 1);
    }

    private static void answersFull(String what, TextVerbs verbs) {
        answersOfEarlierActs(what, verbs);
        Expect.same(what + ", inspect", verbs.inspect(LINE), 2);
        Expect.holds(what + ", inspected", verbs, LINE, "a,ca,");
        Expect.same(what + ", the first phrase", verbs.tally(0, NONE, 5), 1);
        Expect.same(what + ", inspect by it", verbs.inspect(LINE), 0);
        counters(what, verbs, 1, 0, 0, 0, 2, 4, 0, 0, 0, 0);
        Expect.same(what + ", join", verbs.join(INTO, 1), 4);
        Expect.holds(what + ", joined", verbs, INTO, "xyp.xy");
        answersOfSplitAndTable(what, verbs);
        Expect.badState(what + ", the next text", () -> verbs.text(1));
        Expect.badState(what + ", the next table", () -> verbs.table(1));
        Expect.same(what + ", the last text", verbs.at(39, 0), 32);
        Expect.same(what + ", the last table", verbs.index(9, 1), 1);
    }

    private static void answersOfEarlierActs(String what, TextVerbs verbs) {
        Expect.same(what + ", pointer", verbs.pointer(), 3);
        Expect.same(what + ", signs", verbs.result(0, 0), 1);
        Expect.same(what + ", delimiter", verbs.result(0, 1), 0);
        Expect.same(what + ", no second receiver", verbs.result(1, 0), NONE);
        Expect.holds(what + ", line", verbs, LINE, "abcab");
        Expect.holds(what + ", a", verbs, A, "a");
        Expect.holds(what + ", b", verbs, B, "b");
        Expect.holds(what + ", into", verbs, INTO, "....xy");
        Expect.holds(what + ", one", verbs, ONE, " ");
        Expect.holds(what + ", two", verbs, TWO, "p");
    }

    private static void counters(String what, TextVerbs verbs, int... due) {
        for (int k = 0; k < due.length; k++) {
            Expect.same(what + ", counter " + k, verbs.counter(k), due[k]);
        }
    }

    private static void answersOfSplitAndTable(String what, TextVerbs verbs) {
        Expect.same(what + ", split", verbs.split(LIST, 1), 4);
        Expect.holds(what + ", one", verbs, ONE, "p");
        Expect.holds(what + ", two", verbs, TWO, "q");
        Expect.same(what + ", its delimiter", verbs.result(0, 1), 0);
        Expect.same(what + ", the second piece", verbs.result(1, 0), 1);
        Expect.same(what + ", no third piece", verbs.result(2, 0), NONE);
        Expect.same(what + ", no span is left", verbs.convert(XY, XY, XY), 2);
        Expect.same(what + ", index", verbs.index(0, 2), 2);
        Expect.same(what + ", row 1", verbs.row(0, 1, 3), 3);
        Expect.same(what + ", row 2", verbs.row(0, 2, 1), 1);
        Expect.same(what + ", row 3", verbs.row(0, 3, 2), 2);
        Expect.same(what + ", search", verbs.search(0, false, 2), 3);
    }

    private static void eachAlone() {
        Expect.sentence(0, "the answers without any refused call");
        answersStanding("nothing refused", standing());
        answersFull("nothing refused, full", full());
        for (Refused refused : WRONG) {
            Expect.sentence(refused.promise, "IllegalArgumentException when ..");
            TextVerbs some = standing();
            Expect.badArgument(refused.words, () -> refused.use.of(some));
            answersStanding("behind " + refused.words, some);
            TextVerbs all = full();
            Expect.badArgument(refused.words + ", full", () -> refused.use.of(all));
            answersFull("behind " + refused.words + ", full", all);
        }
        for (Refused refused : TOO_MANY) {
            Expect.sentence(refused.promise, "IllegalStateException when there are ..");
            Expect.same(refused.words + " has room in time", Expect.thrownBy(() -> refused.use.of(standing())), "nothing");
            TextVerbs all = full();
            Expect.badState(refused.words, () -> refused.use.of(all));
            answersFull("behind " + refused.words, all);
        }
    }

    private static void allOneAfterTheOther() {
        Expect.sentence(0, "all refused calls, each eight on one object");
        List<Refused> refused = new ArrayList<>(WRONG);
        refused.addAll(TOO_MANY);
        for (int begin = 0; begin < refused.size(); begin += 8) {
            TextVerbs verbs = full();
            for (Refused each : refused.subList(begin, Math.min(begin + 8, refused.size()))) {
                Expect.same(each.words, Expect.thrownBy(() -> each.use.of(verbs)),
                        TOO_MANY.contains(each) ? "IllegalStateException" : "IllegalArgumentException");
            }
            answersFull("behind those from " + begin + " on", verbs);
        }
    }
}
