/** Promises 11, 12 and 17: part, join, pointer. */
public final class StringTest {
    public static void main(String[] args) {
        promise11Part();
        promise11Wrong();
        promise12Join();
        promise12Overflow();
        promise12PartsOfTheTextThatIsWritten();
        promise12DelimiterIsLookedForOnceAPart();
        promise17Pointer();
        Expect.end();
    }

    /** What one part puts into a text of eight dots. */
    private static String put(String source, String limit) {
        TextVerbs verbs = new TextVerbs();
        int into = Expect.text(verbs, "........");
        int from = Expect.text(verbs, source);
        Expect.same("part", verbs.part(from, limit.isEmpty() ? -1 : Expect.text(verbs, limit)), 1);
        int end = verbs.join(into, 1);
        StringBuilder signs = new StringBuilder();
        for (int i = 0; i < end - 1; i++) {
            signs.append((char) verbs.at(into, i));
        }
        return signs.toString();
    }

    private static void promise11Part() {
        Expect.same("all of it", put("a,b", ""), "a,b");
        Expect.same("up to the first one", put("ab,c,d", ","), "ab");
        Expect.same("up to a longer one", put("a,b,;c", ",;"), "a,b");
        Expect.same("without any", put("abc", ","), "abc");
        Expect.same("it begins with it", put(",abc", ","), "");
        Expect.same("an empty one", put("", ""), "");
        Expect.same("an empty one with a delimiter", put("", ","), "");
    }

    private static void promise11Wrong() {
        TextVerbs verbs = new TextVerbs();
        int a = Expect.text(verbs, "a");
        int empty = verbs.text(0);
        Expect.badArgument("no text", () -> verbs.part(2, -1));
        Expect.badArgument("text NONE", () -> verbs.part(-1, a));
        Expect.badArgument("no delimiter", () -> verbs.part(a, 2));
        Expect.badArgument("delimiter -2", () -> verbs.part(a, -2));
        Expect.badArgument("an empty delimiter", () -> verbs.part(a, empty));
        for (int k = 1; k <= 20; k++) {
            Expect.same("part " + k, verbs.part(k % 2 == 0 ? a : empty, -1), k);
        }
        Expect.badState("21st part", () -> verbs.part(a, -1));
        Expect.badArgument("21st part, wrong", () -> verbs.part(a, empty));
    }

    private static void promise12Join() {
        TextVerbs verbs = new TextVerbs();
        int into = Expect.text(verbs, ".........");
        int name = Expect.text(verbs, "ann lee");
        int blank = Expect.text(verbs, " ");
        int dash = Expect.text(verbs, "-");
        verbs.part(name, blank);
        verbs.part(dash, -1);
        verbs.part(name, -1);
        verbs.part(dash, dash);
        Expect.badArgument("join into no text", () -> verbs.join(4, 1));
        Expect.badArgument("join into text -1", () -> verbs.join(-1, 1));
        Expect.same("a wrong call leaves the pointer", verbs.pointer(), 0);
        Expect.same("it overflows", verbs.join(into, 2), -1);
        Expect.holds("what had a place", verbs, into, ".ann-ann ");
        Expect.same("the parts are gone", verbs.join(into, 1), 1);
        verbs.part(dash, -1);
        verbs.part(name, blank);
        Expect.same("pointer behind", verbs.join(into, 3), 7);
        Expect.holds("the rest stays as it was", verbs, into, ".a-annnn ");
    }

    private static void promise12Overflow() {
        TextVerbs verbs = new TextVerbs();
        int into = Expect.text(verbs, "...");
        int ab = Expect.text(verbs, "ab");
        int empty = verbs.text(0);
        verbs.part(ab, -1);
        verbs.part(empty, -1);
        verbs.part(ab, ab);
        Expect.same("it fits just", verbs.join(into, 2), 4);
        Expect.holds("it fits just", verbs, into, ".ab");
        verbs.part(ab, -1);
        Expect.same("a sign too many", verbs.join(into, 3), -1);
        Expect.holds("a sign too many", verbs, into, ".aa");
        for (int start : new int[] {0, 4, -1, Integer.MIN_VALUE, Integer.MAX_VALUE}) {
            verbs.part(ab, -1);
            Expect.same("join from " + start, verbs.join(into, start), -1);
            Expect.same("pointer from " + start, verbs.pointer(), start);
            Expect.same("parts are gone", verbs.join(into, 1), 1);
        }
        Expect.same("without parts, behind the end", verbs.join(into, 4), -1);
        Expect.same("an empty text has no place", verbs.join(empty, 1), -1);
        Expect.holds("unchanged", verbs, into, ".aa");
    }

    private static void promise12PartsOfTheTextThatIsWritten() {
        TextVerbs verbs = new TextVerbs();
        int text = Expect.text(verbs, "abcd");
        verbs.part(text, -1);
        Expect.same("onto itself", verbs.join(text, 2), -1);
        Expect.holds("signs are read when they are put", verbs, text, "aaaa");
        int into = Expect.text(verbs, "x,y...");
        int comma = Expect.text(verbs, ",");
        int dash = Expect.text(verbs, "-");
        verbs.part(dash, -1);
        verbs.part(dash, -1);
        verbs.part(into, comma);
        Expect.same("the comma is gone by then", verbs.join(into, 1), -1);
        Expect.holds("the comma is gone by then", verbs, into, "------");
        int limit = Expect.text(verbs, "b");
        int source = Expect.text(verbs, "abc");
        verbs.part(comma, -1);
        verbs.part(source, limit);
        Expect.same("a changed delimiter", verbs.join(limit, 1), -1);
        Expect.holds("a changed delimiter", verbs, limit, ",");
    }

    /** The document leaves this open: README.md says what is chosen. */
    private static void promise12DelimiterIsLookedForOnceAPart() {
        TextVerbs verbs = new TextVerbs();
        int text = Expect.text(verbs, "ab,d..");
        int comma = Expect.text(verbs, ",");
        verbs.part(text, comma);
        Expect.same("its comma is written over", verbs.join(text, 2), 4);
        Expect.holds("its comma is written over", verbs, text, "aaad..");
    }

    private static void promise17Pointer() {
        TextVerbs verbs = new TextVerbs();
        int into = Expect.text(verbs, "....");
        int ab = Expect.text(verbs, "ab");
        Expect.same("ahead of all", verbs.pointer(), 0);
        verbs.part(ab, -1);
        Expect.same("collecting leaves it", verbs.pointer(), 0);
        verbs.join(into, 2);
        Expect.same("behind a joining", verbs.pointer(), 4);
        verbs.receiver(ab);
        verbs.split(into, 1);
        Expect.same("behind a splitting that overflowed", verbs.pointer(), 3);
        verbs.part(into, -1);
        verbs.join(ab, 2);
        Expect.same("behind a joining that overflowed", verbs.pointer(), 3);
        verbs.split(into, 9);
        Expect.same("behind a splitting from no place", verbs.pointer(), 9);
        Expect.badArgument("a wrong splitting", () -> verbs.split(7, 1));
        Expect.same("it stays", verbs.pointer(), 9);
    }
}
