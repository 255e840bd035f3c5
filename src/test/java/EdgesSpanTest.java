/** The boundary cases of promise 5, of regions and of occurring: a test for each sentence. */
public final class EdgesSpanTest {
    private static final int CHARACTERS = 0;
    private static final int ALL = 1;
    private static final int LEADING = 2;

    public static void main(String[] args) {
        promise5WithoutSpans();
        promise5AfterTheFirstOccurrence();
        promise5AfterAtTheVeryEnd();
        promise5AfterNone();
        promise5BeforeTheFirstOccurrence();
        promise5BeforeAtTheVeryBeginning();
        promise5BeforeNone();
        promise5BothSpans();
        promise5BeforeLiesAheadOfAfter();
        promise5AfterNoneWithBefore();
        promise5ABeforeAheadOfNoAfter();
        promise5OccursWithAllItsSigns();
        promise5AllSignsInTheRegionAtItsBeginning();
        promise5AllSignsInTheRegionAtItsEnd();
        promise5LatestOneCounts();
        promise5EachDirectionForItself();
        promise5OnlyTheNextPhrase();
        promise5TheNextConversion();
        promise5ReplacingPhrase();
        promise5NoSuchText();
        promise5EmptyText();
        promise5RefusedLeavesTheEarlierOne();
        Expect.end();
    }

    /** The signs between the spans, told by counting and by replacing; an empty string tells no span. */
    private static void region(String what, String inspected, String after, String before, String due) {
        TextVerbs verbs = new TextVerbs();
        int text = Expect.text(verbs, inspected);
        int mark = Expect.text(verbs, "#");
        int behind = verbs.text(after.length());
        int ahead = verbs.text(before.length());
        fill(verbs, behind, after);
        fill(verbs, ahead, before);
        tell(verbs, behind, after, ahead, before);
        verbs.tally(CHARACTERS, 0, 0);
        tell(verbs, behind, after, ahead, before);
        verbs.replace(CHARACTERS, 0, mark);
        int size = 0;
        for (int i = 0; i < due.length(); i++) {
            size += due.charAt(i) == '#' ? 1 : 0;
        }
        Expect.same(what + ", replaced", verbs.inspect(text), size);
        Expect.same(what + ", tallied", verbs.counter(0), size);
        Expect.holds(what, verbs, text, due);
    }

    private static void fill(TextVerbs verbs, int text, String signs) {
        for (int i = 0; i < signs.length(); i++) {
            verbs.set(text, i, signs.charAt(i));
        }
    }

    private static void tell(TextVerbs verbs, int behind, String after, int ahead, String before) {
        if (!after.isEmpty()) {
            verbs.span(true, behind);
        }
        if (!before.isEmpty()) {
            verbs.span(false, ahead);
        }
    }

    private static void promise5WithoutSpans() {
        Expect.sentence(5, "without those from its beginning, to its end");
        region("three signs", "abc", "", "", "###");
        region("one sign", "a", "", "", "#");
        region("no sign", "", "", "", "");
        region("sixty signs", "a".repeat(60), "", "", "#".repeat(60));
    }

    private static void promise5AfterTheFirstOccurrence() {
        Expect.sentence(5, "from behind the first occurrence of one text in it (AFTER)");
        region("at the beginning", "abcab", "a", "", "a####");
        region("the first of two", "cabab", "ab", "", "cab##");
        region("of three that overlap", "aaab", "aa", "", "aa##");
        region("behind a false start", "aabc", "ab", "", "aab#");
    }

    private static void promise5AfterAtTheVeryEnd() {
        Expect.sentence(5, "from behind the first occurrence: nothing lies behind it");
        region("the last sign", "abc", "c", "", "abc");
        region("the last two signs", "abc", "bc", "", "abc");
        region("all of it", "abc", "abc", "", "abc");
        region("the sixtieth sign", "a".repeat(59) + "b", "b", "", "a".repeat(59) + "b");
    }

    private static void promise5AfterNone() {
        Expect.sentence(5, "AFTER; nothing, if there is none");
        region("another sign", "abc", "x", "", "abc");
        region("longer than the text", "ab", "abc", "", "ab");
        region("begun at the end", "abca", "ab ", "", "abca");
        region("an empty text", "", "a", "", "");
    }

    private static void promise5BeforeTheFirstOccurrence() {
        Expect.sentence(5, "to ahead of the first occurrence of another one (BEFORE)");
        region("the first of two", "abcab", "", "b", "#bcab");
        region("at the end", "abc", "", "c", "##c");
        region("of three that overlap", "baaa", "", "aa", "#aaa");
        region("behind a false start", "aabc", "", "ab", "#abc");
    }

    private static void promise5BeforeAtTheVeryBeginning() {
        Expect.sentence(5, "to ahead of the first occurrence: nothing lies ahead of it");
        region("the first sign", "abc", "", "a", "abc");
        region("all of it", "abc", "", "abc", "abc");
    }

    private static void promise5BeforeNone() {
        Expect.sentence(5, "BEFORE; to the end, if there is none");
        region("another sign", "abc", "", "x", "###");
        region("longer than the text", "ab", "", "abc", "##");
        region("begun at the end", "abca", "", "abb", "####");
        region("an empty text", "", "", "a", "");
    }

    private static void promise5BothSpans() {
        Expect.sentence(5, "from behind the first occurrence of one text to ahead of the first of another one");
        region("signs between", "abcdef", "b", "e", "ab##ef");
        region("no sign between", "abcdef", "b", "c", "abcdef");
        region("one sign between", "abcdef", "b", "d", "ab#def");
        region("from the first to the last", "abcdef", "a", "f", "a####f");
        region("BEFORE has none", "abcd", "b", "x", "ab##");
    }

    private static void promise5BeforeLiesAheadOfAfter() {
        Expect.sentence(5, "each span is the first occurrence in the whole text: BEFORE may lie ahead of AFTER");
        region("far ahead", "abcdef", "e", "b", "abcdef");
        region("one text for both", "abab", "a", "a", "abab");
        region("they overlap", "aabc", "aa", "ab", "aabc");
        region("a later one does not count", "bacb", "a", "b", "bacb");
    }

    private static void promise5AfterNoneWithBefore() {
        Expect.sentence(5, "AFTER; nothing, if there is none, whatever BEFORE is");
        region("BEFORE is there", "abc", "x", "c", "abc");
        region("BEFORE is not there", "abc", "x", "y", "abc");
    }

    private static void promise5ABeforeAheadOfNoAfter() {
        Expect.sentence(5, "without those from its beginning: BEFORE alone");
        region("up to the first blank", "ab cd ef", "", " ", "## cd ef");
    }

    private static void promise5OccursWithAllItsSigns() {
        Expect.sentence(5, "A text OCCURS at a place of another one if its signs stand there from the place on");
        region("only its first sign stands at the end", "xa", "ab", "", "xa");
        region("it stands at the end", "xxab", "", "ab", "##ab");
        region("the sign 0 and the sign 255", "a\0\u00ffb", "\0\u00ff", "", "a\0\u00ff#");
        region("a blank is a sign", "a b", " ", "", "a #");
    }

    private static void promise5AllSignsInTheRegionAtItsBeginning() {
        Expect.sentence(5, "A phrase MATCHES if its text occurs there with all its signs in the region: its beginning");
        TextVerbs verbs = new TextVerbs();
        int text = Expect.text(verbs, "xabab");
        int xa = Expect.text(verbs, "xa");
        int ab = Expect.text(verbs, "ab");
        verbs.span(true, xa);
        verbs.tally(ALL, ab, 0);
        verbs.span(true, xa);
        verbs.tally(LEADING, ab, 1);
        verbs.inspect(text);
        Expect.same("ALL, the one at its beginning lies half ahead of it", verbs.counter(0), 1);
        Expect.same("LEADING does not begin there", verbs.counter(1), 0);
    }

    private static void promise5AllSignsInTheRegionAtItsEnd() {
        Expect.sentence(5, "A phrase MATCHES if its text occurs there with all its signs in the region: its end");
        TextVerbs verbs = new TextVerbs();
        int text = Expect.text(verbs, "ababx");
        int bx = Expect.text(verbs, "bx");
        int ab = Expect.text(verbs, "ab");
        int x = Expect.text(verbs, "x");
        int aba = Expect.text(verbs, "aba");
        verbs.span(false, bx);
        verbs.tally(ALL, ab, 0);
        verbs.inspect(text);
        Expect.same("the last one lies half behind it", verbs.counter(0), 1);
        verbs.span(false, x);
        verbs.tally(LEADING, ab, 0);
        verbs.inspect(text);
        Expect.same("the last one fills it just", verbs.counter(0), 2);
        verbs.span(false, bx);
        verbs.tally(LEADING, aba, 0);
        verbs.inspect(text);
        Expect.same("one that is all of the region", verbs.counter(0), 1);
    }

    private static int counted(TextVerbs verbs, int text) {
        verbs.tally(CHARACTERS, 0, 0);
        verbs.inspect(text);
        return verbs.counter(0);
    }

    private static void promise5LatestOneCounts() {
        Expect.sentence(5, "told again, the latest one counts");
        TextVerbs verbs = new TextVerbs();
        int text = Expect.text(verbs, "abcdef");
        int a = Expect.text(verbs, "a");
        int d = Expect.text(verbs, "d");
        int x = Expect.text(verbs, "x");
        verbs.span(true, a);
        verbs.span(true, d);
        Expect.same("AFTER, a later place", counted(verbs, text), 2);
        verbs.span(true, d);
        verbs.span(true, a);
        Expect.same("AFTER, an earlier place", counted(verbs, text), 5);
        verbs.span(true, a);
        verbs.span(true, x);
        Expect.same("AFTER, no place", counted(verbs, text), 0);
        verbs.span(false, a);
        verbs.span(false, d);
        Expect.same("BEFORE, a later place", counted(verbs, text), 3);
        verbs.span(false, d);
        verbs.span(false, a);
        Expect.same("BEFORE, an earlier place", counted(verbs, text), 0);
        verbs.span(false, d);
        verbs.span(false, x);
        Expect.same("BEFORE, no place", counted(verbs, text), 6);
        verbs.span(true, a);
        verbs.span(true, a);
        Expect.same("the same once more", counted(verbs, text), 5);
    }

    private static void promise5EachDirectionForItself() {
        Expect.sentence(5, "begins behind (after), or ends ahead of; told again, the latest one counts");
        TextVerbs verbs = new TextVerbs();
        int text = Expect.text(verbs, "abcdef");
        int b = Expect.text(verbs, "b");
        int c = Expect.text(verbs, "c");
        int f = Expect.text(verbs, "f");
        verbs.span(true, b);
        verbs.span(false, f);
        verbs.span(true, c);
        Expect.same("BEFORE is left", counted(verbs, text), 2);
        verbs.span(false, c);
        verbs.span(true, b);
        verbs.span(false, f);
        Expect.same("AFTER is left", counted(verbs, text), 3);
    }

    private static void promise5OnlyTheNextPhrase() {
        Expect.sentence(5, "The next phrase's region");
        TextVerbs verbs = new TextVerbs();
        int text = Expect.text(verbs, "abcdef");
        int b = Expect.text(verbs, "b");
        int e = Expect.text(verbs, "e");
        verbs.span(true, b);
        verbs.span(false, e);
        verbs.inspect(text);
        Expect.same("an inspection ahead of the phrase takes none", counted(verbs, text), 2);
        Expect.same("the phrase behind it has none", counted(verbs, text), 6);
    }

    private static void promise5TheNextConversion() {
        Expect.sentence(5, "(or conversion's) region");
        TextVerbs verbs = new TextVerbs();
        int text = Expect.text(verbs, "aaba");
        int a = Expect.text(verbs, "a");
        int b = Expect.text(verbs, "b");
        verbs.span(true, b);
        Expect.same("converted", verbs.convert(text, a, b), 1);
        Expect.same("the phrase behind it has none", counted(verbs, text), 4);
        verbs.span(false, b);
        Expect.same("the phrase has it", counted(verbs, text), 2);
        Expect.same("the conversion behind it has none", verbs.convert(text, b, a), 2);
    }

    private static void promise5ReplacingPhrase() {
        Expect.sentence(5, "The next phrase's region: a replacing one");
        TextVerbs verbs = new TextVerbs();
        int text = Expect.text(verbs, "abab");
        int a = Expect.text(verbs, "a");
        int b = Expect.text(verbs, "b");
        int x = Expect.text(verbs, "x");
        verbs.span(true, a);
        verbs.replace(ALL, a, x);
        verbs.replace(ALL, b, x);
        Expect.same("the second one has no span", verbs.inspect(text), 3);
        Expect.holds("the second one has no span", verbs, text, "axxx");
    }

    private static void promise5NoSuchText() {
        Expect.sentence(5, "IllegalArgumentException when there is no such text");
        TextVerbs verbs = new TextVerbs();
        int text = Expect.text(verbs, "abc");
        for (int of : new int[] {-1, 1, 39, 40, Integer.MIN_VALUE, Integer.MAX_VALUE}) {
            Expect.badArgument("after text " + of, () -> verbs.span(true, of));
            Expect.badArgument("before text " + of, () -> verbs.span(false, of));
        }
        Expect.same("no span was told", counted(verbs, text), 3);
    }

    private static void promise5EmptyText() {
        Expect.sentence(5, "IllegalArgumentException when it is empty");
        TextVerbs verbs = new TextVerbs();
        int text = Expect.text(verbs, "abc");
        int empty = verbs.text(0);
        Expect.badArgument("after", () -> verbs.span(true, empty));
        Expect.badArgument("before", () -> verbs.span(false, empty));
        Expect.same("no span was told", counted(verbs, text), 3);
    }

    private static void promise5RefusedLeavesTheEarlierOne() {
        Expect.sentence(5, "a refused span leaves the one that was told");
        TextVerbs verbs = new TextVerbs();
        int text = Expect.text(verbs, "abcd");
        int a = Expect.text(verbs, "a");
        int d = Expect.text(verbs, "d");
        int empty = verbs.text(0);
        verbs.span(true, a);
        verbs.span(false, d);
        Expect.badArgument("after an empty one", () -> verbs.span(true, empty));
        Expect.badArgument("before an empty one", () -> verbs.span(false, empty));
        Expect.badArgument("after none", () -> verbs.span(true, 99));
        Expect.badArgument("before none", () -> verbs.span(false, -1));
        Expect.same("both are there", counted(verbs, text), 2);
    }
}
