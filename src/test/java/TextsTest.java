/** Promises 1 to 4: a new object, text, set, at. */
public final class TextsTest {
    public static void main(String[] args) {
        promise1NewObject();
        promise2Text();
        promise2Limits();
        promise3Set();
        promise4At();
        Expect.end();
    }

    private static void promise1NewObject() {
        TextVerbs verbs = new TextVerbs();
        Expect.badArgument("at(0, 0) without a text", () -> verbs.at(0, 0));
        Expect.badArgument("inspect(0) without a text", () -> verbs.inspect(0));
        Expect.badArgument("search without a table", () -> verbs.search(0, false, 0));
        for (int k = 0; k < 10; k++) {
            Expect.same("counter " + k + " at first", verbs.counter(k), 0);
        }
        Expect.same("pointer at first", verbs.pointer(), 0);
        Expect.same("result at first", verbs.result(0, 0), -1);
        int one = Expect.text(verbs, "a");
        Expect.same("inspect without phrases", verbs.inspect(one), 0);
        Expect.same("join without parts", verbs.join(one, 1), 1);
        Expect.same("split without receivers", verbs.split(one, 1), -1);
        Expect.same("first phrase", verbs.tally(0, 0, 0), 1);
        Expect.same("first part", verbs.part(one, -1), 1);
        Expect.same("first delimiter", verbs.delimiter(one, true), 1);
        Expect.same("first receiver", verbs.receiver(one), 1);
        Expect.same("first table", verbs.table(1), 0);
        Expect.same("objects do not share texts", new TextVerbs().text(3), 0);
    }

    private static void promise2Text() {
        TextVerbs verbs = new TextVerbs();
        Expect.same("text(3)", verbs.text(3), 0);
        Expect.same("text(0)", verbs.text(0), 1);
        Expect.same("text(60)", verbs.text(60), 2);
        Expect.holds("a new text", verbs, 0, "   ");
        Expect.holds("an empty text", verbs, 1, "");
        Expect.holds("the longest text", verbs, 2, " ".repeat(60));
        Expect.badArgument("text(-1)", () -> verbs.text(-1));
        Expect.badArgument("text(61)", () -> verbs.text(61));
        Expect.badArgument("text(least)", () -> verbs.text(Integer.MIN_VALUE));
        Expect.badArgument("text(greatest)", () -> verbs.text(Integer.MAX_VALUE));
        Expect.same("text behind wrong ones", verbs.text(1), 3);
    }

    private static void promise2Limits() {
        TextVerbs verbs = new TextVerbs();
        for (int k = 0; k < 40; k++) {
            Expect.same("text " + k, verbs.text(60), k);
        }
        Expect.badState("41st text", () -> verbs.text(0));
        Expect.badArgument("41st text of a wrong size", () -> verbs.text(61));
        verbs.set(39, 59, 7);
        Expect.same("the last sign of the last text", verbs.at(39, 59), 7);
    }

    private static void promise3Set() {
        TextVerbs verbs = new TextVerbs();
        int text = verbs.text(3);
        int other = verbs.text(3);
        verbs.set(text, 0, 0);
        verbs.set(text, 2, 255);
        Expect.holds("set signs", verbs, text, "\0 \u00ff");
        Expect.holds("the other text", verbs, other, "   ");
        Expect.badArgument("set of no text", () -> verbs.set(2, 0, 65));
        Expect.badArgument("set of text -1", () -> verbs.set(-1, 0, 65));
        Expect.badArgument("set at -1", () -> verbs.set(text, -1, 65));
        Expect.badArgument("set behind the end", () -> verbs.set(text, 3, 65));
        Expect.badArgument("set of sign -1", () -> verbs.set(text, 1, -1));
        Expect.badArgument("set of sign 256", () -> verbs.set(text, 1, 256));
        Expect.holds("behind wrong calls", verbs, text, "\0 \u00ff");
    }

    private static void promise4At() {
        TextVerbs verbs = new TextVerbs();
        int text = Expect.text(verbs, "xyz");
        Expect.same("at(0)", verbs.at(text, 0), 'x');
        Expect.same("at(2)", verbs.at(text, 2), 'z');
        Expect.badArgument("at of no text", () -> verbs.at(1, 0));
        Expect.badArgument("at of text -1", () -> verbs.at(-1, 0));
        Expect.badArgument("at -1", () -> verbs.at(text, -1));
        Expect.badArgument("at 3", () -> verbs.at(text, 3));
        Expect.badArgument("at the greatest", () -> verbs.at(text, Integer.MAX_VALUE));
    }
}
