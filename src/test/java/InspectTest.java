/** Promises 5 to 10: span, tally, replace, inspect, convert, counter. */
public final class InspectTest {
    private static final int CHARACTERS = 0;
    private static final int ALL = 1;
    private static final int LEADING = 2;
    private static final int FIRST = 3;

    public static void main(String[] args) {
        promise5Regions();
        promise5LatestSpanCounts();
        promise5SpansWaitForAPhrase();
        promise5WrongSpans();
        promise6Kinds();
        promise6Order();
        promise6Wrong();
        promise7Kinds();
        promise7Wrong();
        promise8Limits();
        promise8TallyingFirst();
        promise8TextsThatAreTheInspectedOne();
        promise9Convert();
        promise9Regions();
        promise9TextsThatAreTheConvertedOne();
        promise9Wrong();
        promise10Counter();
        Expect.end();
    }

    /** Counts what CHARACTERS match between the spans; an empty string tells no span. */
    private static int regionSize(String inspected, String after, String before) {
        TextVerbs verbs = new TextVerbs();
        int text = Expect.text(verbs, inspected);
        if (!after.isEmpty()) {
            verbs.span(true, Expect.text(verbs, after));
        }
        if (!before.isEmpty()) {
            verbs.span(false, Expect.text(verbs, before));
        }
        verbs.tally(CHARACTERS, -5, 0);
        verbs.inspect(text);
        return verbs.counter(0);
    }

    private static void promise5Regions() {
        Expect.same("no span", regionSize("abcabc", "", ""), 6);
        Expect.same("after the first one", regionSize("abcabc", "b", ""), 4);
        Expect.same("after a longer one", regionSize("abcabc", "bc", ""), 3);
        Expect.same("after none", regionSize("abcabc", "x", ""), 0);
        Expect.same("after the last sign", regionSize("abc", "c", ""), 0);
        Expect.same("before the first one", regionSize("abcabc", "", "c"), 2);
        Expect.same("before none", regionSize("abcabc", "", "x"), 6);
        Expect.same("before the first sign", regionSize("abcabc", "", "a"), 0);
        Expect.same("after and before", regionSize("abcdef", "b", "e"), 2);
        Expect.same("before lies ahead of after", regionSize("abcabc", "b", "a"), 0);
        Expect.same("before overlaps after", regionSize("aab", "aa", "ab"), 0);
        Expect.same("after and before none", regionSize("abcdef", "b", "x"), 4);
        Expect.same("a span longer than the text", regionSize("ab", "abc", ""), 0);
        Expect.same("an empty text", regionSize("", "", "x"), 0);
    }

    private static void promise5LatestSpanCounts() {
        TextVerbs verbs = new TextVerbs();
        int text = Expect.text(verbs, "abcdef");
        int b = Expect.text(verbs, "b");
        int d = Expect.text(verbs, "d");
        int f = Expect.text(verbs, "f");
        verbs.span(true, d);
        verbs.span(false, d);
        verbs.span(false, f);
        verbs.span(true, b);
        verbs.tally(CHARACTERS, 0, 0);
        verbs.tally(CHARACTERS, 0, 1);
        verbs.inspect(text);
        Expect.same("the latest spans count", verbs.counter(0), 3);
        Expect.same("the next phrase has no spans", verbs.counter(1), 3);
    }

    private static void promise5SpansWaitForAPhrase() {
        TextVerbs verbs = new TextVerbs();
        int text = Expect.text(verbs, "abcdef");
        int b = Expect.text(verbs, "b");
        verbs.span(true, b);
        Expect.badArgument("a wrong phrase", () -> verbs.tally(9, b, 0));
        Expect.badArgument("a wrong replacing", () -> verbs.replace(1, b, text));
        Expect.badArgument("a wrong conversion", () -> verbs.convert(text, text, b));
        verbs.inspect(text);
        verbs.set(b, 0, 'd');
        verbs.tally(CHARACTERS, 0, 0);
        verbs.set(b, 0, 'e');
        verbs.inspect(text);
        Expect.same("the span is as it is when inspect begins", verbs.counter(0), 1);
    }

    private static void promise5WrongSpans() {
        TextVerbs verbs = new TextVerbs();
        int empty = verbs.text(0);
        Expect.badArgument("span of an empty text", () -> verbs.span(true, empty));
        Expect.badArgument("span of no text", () -> verbs.span(false, 1));
        Expect.badArgument("span of text -1", () -> verbs.span(true, -1));
    }

    private static int tallied(String inspected, int kind, String sought) {
        TextVerbs verbs = new TextVerbs();
        int text = Expect.text(verbs, inspected);
        Expect.same("tally answers", verbs.tally(kind, Expect.text(verbs, sought), 9), 1);
        Expect.same("inspect without replacing", verbs.inspect(text), 0);
        Expect.holds("tallying changes nothing", verbs, text, inspected);
        return verbs.counter(9);
    }

    private static void promise6Kinds() {
        Expect.same("ALL", tallied("abaab", ALL, "a"), 3);
        Expect.same("ALL does not overlap", tallied("aaaaa", ALL, "aa"), 2);
        Expect.same("ALL behind a false start", tallied("aab", ALL, "ab"), 1);
        Expect.same("ALL, sought is longer", tallied("ab", ALL, "abc"), 0);
        Expect.same("ALL, cut by the end", tallied("abca", ALL, "ab"), 1);
        Expect.same("LEADING", tallied("aabaa", LEADING, "a"), 2);
        Expect.same("LEADING in pairs", tallied("aaaaaba", LEADING, "aa"), 2);
        Expect.same("LEADING, none", tallied("baaa", LEADING, "a"), 0);
        Expect.same("CHARACTERS", tallied("abaab", CHARACTERS, "zz"), 5);
        Expect.same("an empty text", tallied("", ALL, "a"), 0);
        TextVerbs verbs = new TextVerbs();
        int text = Expect.text(verbs, "xaaxaa");
        int a = Expect.text(verbs, "a");
        int aax = Expect.text(verbs, "aax");
        int x = Expect.text(verbs, "x");
        verbs.span(true, x);
        verbs.tally(LEADING, a, 0);
        verbs.inspect(text);
        Expect.same("LEADING at the region's beginning", verbs.counter(0), 2);
        verbs.span(true, x);
        verbs.span(false, aax);
        verbs.tally(ALL, aax, 0);
        verbs.tally(LEADING, aax, 0);
        verbs.inspect(text);
        Expect.same("a match lies in the region with all its signs", verbs.counter(0), 0);
    }

    private static void promise6Order() {
        TextVerbs verbs = new TextVerbs();
        int text = Expect.text(verbs, "aaba");
        int a = Expect.text(verbs, "a");
        int aa = Expect.text(verbs, "aa");
        int b = Expect.text(verbs, "b");
        verbs.tally(ALL, aa, 0);
        verbs.tally(ALL, a, 1);
        Expect.same("how many phrases", verbs.tally(CHARACTERS, 0, 2), 3);
        verbs.inspect(text);
        Expect.same("the first one", verbs.counter(0), 1);
        Expect.same("the second one", verbs.counter(1), 1);
        Expect.same("the third one", verbs.counter(2), 1);
        verbs.tally(ALL, a, 1);
        verbs.tally(ALL, aa, 0);
        verbs.inspect(text);
        Expect.same("an earlier one goes ahead", verbs.counter(0), 0);
        Expect.same("an earlier one takes all", verbs.counter(1), 3);
        verbs.span(true, a);
        verbs.tally(LEADING, a, 3);
        verbs.tally(ALL, aa, 4);
        verbs.inspect(text);
        Expect.same("the region's beginning was passed over", verbs.counter(3), 0);
        Expect.same("by a longer match", verbs.counter(4), 1);
        int mixed = Expect.text(verbs, "abab");
        verbs.tally(LEADING, a, 5);
        verbs.tally(ALL, b, 6);
        verbs.inspect(mixed);
        Expect.same("another's match breaks LEADING", verbs.counter(5), 1);
    }

    private static void promise6Wrong() {
        TextVerbs verbs = new TextVerbs();
        int a = Expect.text(verbs, "a");
        int empty = verbs.text(0);
        Expect.badArgument("kind -1", () -> verbs.tally(-1, a, 0));
        Expect.badArgument("kind FIRST", () -> verbs.tally(FIRST, a, 0));
        Expect.badArgument("no text", () -> verbs.tally(ALL, 2, 0));
        Expect.badArgument("text -1", () -> verbs.tally(LEADING, -1, 0));
        Expect.badArgument("an empty text", () -> verbs.tally(ALL, empty, 0));
        Expect.badArgument("counter -1", () -> verbs.tally(ALL, a, -1));
        Expect.badArgument("counter 10", () -> verbs.tally(CHARACTERS, a, 10));
        Expect.same("CHARACTERS do not look at a text", verbs.tally(CHARACTERS, Integer.MIN_VALUE, 0), 1);
        Expect.same("CHARACTERS do not look at an empty text", verbs.tally(CHARACTERS, empty, 9), 2);
    }

    private static void replaced(String inspected, int kind, String sought, String put, String due, int times) {
        TextVerbs verbs = new TextVerbs();
        int text = Expect.text(verbs, inspected);
        int from = Expect.text(verbs, sought);
        Expect.same("replace answers", verbs.replace(kind, from, Expect.text(verbs, put)), 1);
        String what = inspected + " by " + kind + " " + sought;
        Expect.same(what, verbs.inspect(text), times);
        Expect.holds(what, verbs, text, due);
        Expect.holds("the sought text", verbs, from, sought);
    }

    private static void promise7Kinds() {
        replaced("abaab", CHARACTERS, "", "x", "xxxxx", 5);
        replaced("abaab", ALL, "ab", "xy", "xyaxy", 2);
        replaced("aaaaa", ALL, "aa", "ab", "ababa", 2);
        replaced("aabaa", LEADING, "a", "x", "xxbaa", 2);
        replaced("baa", LEADING, "a", "x", "baa", 0);
        replaced("babab", FIRST, "ab", "xy", "bxyab", 1);
        replaced("bbb", FIRST, "a", "x", "bbb", 0);
        replaced("aa", ALL, "a", "a", "aa", 2);
        replaced("", CHARACTERS, "", "x", "", 0);
        TextVerbs verbs = new TextVerbs();
        int text = Expect.text(verbs, "aabaacaa");
        int a = Expect.text(verbs, "a");
        int x = Expect.text(verbs, "x");
        int c = Expect.text(verbs, "c");
        verbs.span(true, c);
        verbs.replace(FIRST, a, x);
        verbs.replace(LEADING, a, c);
        Expect.same("how many phrases", verbs.replace(FIRST, a, x), 3);
        Expect.same("how many times", verbs.inspect(text), 4);
        Expect.holds("by regions and in order", verbs, text, "ccbxacxa");
    }

    private static void promise7Wrong() {
        TextVerbs verbs = new TextVerbs();
        int a = Expect.text(verbs, "a");
        int ab = Expect.text(verbs, "ab");
        int empty = verbs.text(0);
        Expect.badArgument("kind -1", () -> verbs.replace(-1, a, a));
        Expect.badArgument("kind 4", () -> verbs.replace(4, a, a));
        Expect.badArgument("no text", () -> verbs.replace(ALL, 3, a));
        Expect.badArgument("text -1", () -> verbs.replace(ALL, -1, a));
        Expect.badArgument("an empty text", () -> verbs.replace(ALL, empty, empty));
        Expect.badArgument("nothing to put", () -> verbs.replace(ALL, a, 3));
        Expect.badArgument("NONE to put", () -> verbs.replace(CHARACTERS, a, -1));
        Expect.badArgument("a longer one to put", () -> verbs.replace(FIRST, a, ab));
        Expect.badArgument("a shorter one to put", () -> verbs.replace(LEADING, ab, a));
        Expect.badArgument("two signs for CHARACTERS", () -> verbs.replace(CHARACTERS, ab, ab));
        Expect.badArgument("no sign for CHARACTERS", () -> verbs.replace(CHARACTERS, a, empty));
        Expect.same("CHARACTERS do not look at a text", verbs.replace(CHARACTERS, 99, a), 1);
    }

    private static void promise8Limits() {
        TextVerbs verbs = new TextVerbs();
        int a = Expect.text(verbs, "a");
        int b = Expect.text(verbs, "bb");
        for (int k = 1; k <= 20; k++) {
            Expect.same("phrase " + k, k % 2 == 0 ? verbs.tally(ALL, a, 0) : verbs.replace(ALL, a, a), k);
        }
        verbs.span(true, a);
        Expect.badState("21st phrase", () -> verbs.tally(ALL, a, 0));
        Expect.badState("21st phrase, replacing", () -> verbs.replace(ALL, a, a));
        Expect.badArgument("21st phrase, wrong", () -> verbs.tally(ALL, a, 10));
        Expect.badArgument("21st phrase, replacing, wrong", () -> verbs.replace(ALL, a, b));
        Expect.badArgument("inspect of no text", () -> verbs.inspect(2));
        Expect.badArgument("inspect of text -1", () -> verbs.inspect(-1));
        Expect.badState("phrases are there yet", () -> verbs.tally(ALL, a, 0));
        Expect.same("inspect", verbs.inspect(a), 1);
        Expect.same("counter", verbs.counter(0), 1);
        Expect.same("phrases are gone", verbs.inspect(a), 0);
        Expect.same("phrases begin anew", verbs.tally(CHARACTERS, 0, 0), 1);
        verbs.inspect(a);
        Expect.same("the span was kept for the next phrase", verbs.counter(0), 0);
    }

    private static void promise8TallyingFirst() {
        TextVerbs verbs = new TextVerbs();
        int text = Expect.text(verbs, "aab");
        int a = Expect.text(verbs, "a");
        int b = Expect.text(verbs, "b");
        verbs.replace(ALL, a, b);
        verbs.tally(ALL, a, 0);
        verbs.replace(ALL, b, a);
        verbs.tally(ALL, b, 1);
        Expect.same("replacing ones acted", verbs.inspect(text), 3);
        Expect.holds("each place is replaced once", verbs, text, "bba");
        Expect.same("tallied as it was", verbs.counter(0), 2);
        Expect.same("tallied as it was", verbs.counter(1), 1);
    }

    private static void promise8TextsThatAreTheInspectedOne() {
        TextVerbs verbs = new TextVerbs();
        int text = Expect.text(verbs, "ab");
        int ba = Expect.text(verbs, "ba");
        verbs.replace(ALL, text, ba);
        Expect.same("sought in itself", verbs.inspect(text), 1);
        Expect.holds("sought in itself", verbs, text, "ba");
        int sign = Expect.text(verbs, "a");
        int other = Expect.text(verbs, "b");
        verbs.replace(CHARACTERS, 0, other);
        verbs.replace(ALL, sign, other);
        verbs.inspect(sign);
        Expect.holds("the first phrase acted", verbs, sign, "b");
        verbs.set(text, 0, 'a');
        verbs.set(text, 1, 'b');
        verbs.span(false, text);
        verbs.tally(CHARACTERS, 0, 0);
        verbs.replace(ALL, ba, text);
        verbs.replace(CHARACTERS, 0, other);
        verbs.inspect(text);
        Expect.same("ahead of itself there is nothing", verbs.counter(0), 0);
        Expect.holds("changed", verbs, text, "bb");
        verbs.set(text, 0, 'x');
        verbs.set(text, 1, 'y');
        int x = Expect.text(verbs, "x");
        verbs.replace(FIRST, x, sign);
        verbs.replace(ALL, text, ba);
        verbs.inspect(text);
        Expect.holds("FIRST goes ahead", verbs, text, "by");
    }

    private static void promise9Convert() {
        TextVerbs verbs = new TextVerbs();
        int text = Expect.text(verbs, "banana");
        int from = Expect.text(verbs, "nba");
        int to = Expect.text(verbs, "mcn");
        Expect.same("convert", verbs.convert(text, from, to), 6);
        Expect.holds("no sign is converted twice", verbs, text, "cnmnmn");
        int twice = Expect.text(verbs, "nn");
        int news = Expect.text(verbs, "xy");
        Expect.same("convert by doubles", verbs.convert(text, twice, news), 3);
        Expect.holds("the first one counts", verbs, text, "cxmxmx");
        Expect.same("convert of none", verbs.convert(text, twice, news), 0);
        Expect.same("convert to itself counts", verbs.convert(text, news, news), 3);
        int empty = verbs.text(0);
        Expect.same("convert by empty texts", verbs.convert(text, empty, empty), 0);
        Expect.same("convert of an empty text", verbs.convert(empty, from, to), 0);
        Expect.holds("unchanged", verbs, text, "cxmxmx");
    }

    private static void promise9Regions() {
        TextVerbs verbs = new TextVerbs();
        int text = Expect.text(verbs, "aaxaayaa");
        int a = Expect.text(verbs, "a");
        int b = Expect.text(verbs, "b");
        int x = Expect.text(verbs, "x");
        int y = Expect.text(verbs, "y");
        verbs.span(true, x);
        verbs.span(false, y);
        verbs.tally(CHARACTERS, 0, 0);
        verbs.span(true, x);
        verbs.span(false, y);
        Expect.same("convert in its region", verbs.convert(text, a, b), 2);
        Expect.holds("convert in its region", verbs, text, "aaxbbyaa");
        Expect.same("the spans are gone", verbs.convert(text, b, a), 2);
        verbs.span(true, y);
        verbs.span(false, x);
        Expect.same("nothing lies between", verbs.convert(text, a, b), 0);
        verbs.span(true, b);
        Expect.same("after none", verbs.convert(text, a, b), 0);
        Expect.same("all of it", verbs.convert(text, a, b), 6);
        verbs.inspect(text);
        Expect.same("phrases stay", verbs.counter(0), 2);
    }

    private static void promise9TextsThatAreTheConvertedOne() {
        TextVerbs verbs = new TextVerbs();
        int text = Expect.text(verbs, "ab");
        int bc = Expect.text(verbs, "bc");
        Expect.same("convert by itself", verbs.convert(text, text, bc), 2);
        Expect.holds("convert by itself", verbs, text, "bc");
        int ab = Expect.text(verbs, "cb");
        Expect.same("convert to itself", verbs.convert(text, ab, text), 2);
        Expect.holds("convert to itself", verbs, text, "cb");
    }

    private static void promise9Wrong() {
        TextVerbs verbs = new TextVerbs();
        int text = Expect.text(verbs, "ab");
        int a = Expect.text(verbs, "a");
        Expect.badArgument("no text", () -> verbs.convert(2, a, a));
        Expect.badArgument("text -1", () -> verbs.convert(-1, a, a));
        Expect.badArgument("no from", () -> verbs.convert(text, 2, a));
        Expect.badArgument("from -1", () -> verbs.convert(text, -1, a));
        Expect.badArgument("no to", () -> verbs.convert(text, a, 2));
        Expect.badArgument("to -1", () -> verbs.convert(text, a, -1));
        Expect.badArgument("to is longer", () -> verbs.convert(text, a, text));
        Expect.badArgument("to is shorter", () -> verbs.convert(text, text, a));
    }

    private static void promise10Counter() {
        TextVerbs verbs = new TextVerbs();
        int text = Expect.text(verbs, "aab");
        verbs.tally(CHARACTERS, 0, 0);
        verbs.inspect(text);
        verbs.tally(CHARACTERS, 0, 0);
        verbs.inspect(text);
        Expect.same("it goes on adding", verbs.counter(0), 6);
        Expect.same("it becomes 0", verbs.counter(0), 0);
        Expect.same("the others are 0", verbs.counter(9), 0);
        Expect.badArgument("counter -1", () -> verbs.counter(-1));
        Expect.badArgument("counter 10", () -> verbs.counter(10));
    }
}
