/** The boundary cases of promises 8 to 10, inspecting, converting, counters: a test for each sentence. */
public final class EdgesInspectTest {
    private static final int CHARACTERS = 0;
    private static final int ALL = 1;
    private static final int LEADING = 2;
    private static final int FIRST = 3;
    private static final int LEAST = Integer.MIN_VALUE;
    private static final int GREATEST = Integer.MAX_VALUE;

    public static void main(String[] args) {
        promise8WithoutPhrases();
        promise8EmptyText();
        promise8LongestText();
        promise8PhrasesGo();
        promise8HowManyTimes();
        promise8TallyingOnesGoFirst();
        promise8PhrasesOfOneSortAlone();
        promise8RegionsAsAtTheBeginning();
        promise8TextsAsAtTheBeginningOfInspect();
        promise8SoughtIsTheInspectedText();
        promise8PutIsTheInspectedText();
        promise8SpanIsTheInspectedText();
        promise8NoSuchText();
        promise8RefusedKeepsAll();
        promise9FirstOneOfFrom();
        promise9ConvertedOnce();
        promise9HowManyThereWere();
        promise9EmptyTexts();
        promise9LongestTexts();
        promise9FirstAndLastSign();
        promise9Region();
        promise9SpansGo();
        promise9NoSuchText();
        promise9NotOfOneSize();
        promise9RefusedKeepsAll();
        promise9LeavesPhrases();
        promise10BecomesZero();
        promise10FirstAndLast();
        promise10NoneSuch();
        promise10RefusedKeepsCounters();
        promise10AddsUp();
        Expect.end();
    }

    private static void promise8WithoutPhrases() {
        Expect.sentence(8, "inspected by all phrases: there is none");
        TextVerbs verbs = new TextVerbs();
        int text = Expect.text(verbs, "abc");
        Expect.same("inspect", verbs.inspect(text), 0);
        Expect.holds("unchanged", verbs, text, "abc");
    }

    private static void promise8EmptyText() {
        Expect.sentence(8, "The text is inspected: an empty one");
        TextVerbs verbs = new TextVerbs();
        int empty = verbs.text(0);
        int a = Expect.text(verbs, "a");
        verbs.tally(CHARACTERS, 0, 0);
        verbs.tally(ALL, a, 0);
        verbs.span(true, a);
        verbs.tally(LEADING, a, 0);
        verbs.span(false, a);
        verbs.replace(CHARACTERS, 0, a);
        verbs.replace(FIRST, a, a);
        Expect.same("none acts", verbs.inspect(empty), 0);
        Expect.same("none tallies", verbs.counter(0), 0);
        Expect.same("the phrases are gone", verbs.inspect(a), 0);
        Expect.same("the phrases are gone", verbs.counter(0), 0);
    }

    private static void promise8LongestText() {
        Expect.sentence(8, "The text is inspected: one of sixty signs");
        TextVerbs verbs = new TextVerbs();
        int text = verbs.text(60);
        int a = Expect.text(verbs, "a");
        for (int k = 1; k <= 10; k++) {
            verbs.tally(CHARACTERS, 0, 0);
            verbs.replace(CHARACTERS, 0, a);
        }
        Expect.same("each place once", verbs.inspect(text), 60);
        Expect.same("each place once", verbs.counter(0), 60);
        Expect.holds("to the last place", verbs, text, "a".repeat(60));
    }

    private static void promise8PhrasesGo() {
        Expect.sentence(8, "by all phrases, which go");
        TextVerbs verbs = new TextVerbs();
        int text = Expect.text(verbs, "aa");
        int a = Expect.text(verbs, "a");
        verbs.tally(ALL, a, 3);
        verbs.replace(ALL, a, a);
        Expect.same("the first time", verbs.inspect(text), 2);
        Expect.same("the second time", verbs.inspect(text), 0);
        Expect.same("tallied once", verbs.counter(3), 2);
        Expect.same("the next phrase is the first", verbs.replace(FIRST, a, a), 1);
        Expect.same("it acts alone", verbs.inspect(text), 1);
    }

    private static void promise8HowManyTimes() {
        Expect.sentence(8, "how many times replacing ones acted");
        TextVerbs verbs = new TextVerbs();
        int text = Expect.text(verbs, "aabb");
        int a = Expect.text(verbs, "a");
        int bb = Expect.text(verbs, "bb");
        verbs.tally(CHARACTERS, 0, 0);
        verbs.replace(ALL, a, a);
        verbs.replace(ALL, bb, bb);
        Expect.same("not the tallying ones; by the same signs, too", verbs.inspect(text), 3);
        verbs.tally(CHARACTERS, 0, 0);
        Expect.same("tallying ones alone", verbs.inspect(text), 0);
    }

    private static void promise8TallyingOnesGoFirst() {
        Expect.sentence(8, "All tallying ones go over the text first, then all replacing ones");
        TextVerbs verbs = new TextVerbs();
        int text = Expect.text(verbs, "aab");
        int a = Expect.text(verbs, "a");
        int x = Expect.text(verbs, "x");
        verbs.replace(ALL, a, x);
        verbs.tally(ALL, a, 0);
        verbs.tally(ALL, x, 1);
        Expect.same("replaced", verbs.inspect(text), 2);
        Expect.same("tallied before", verbs.counter(0), 2);
        Expect.same("nothing was there yet", verbs.counter(1), 0);
        Expect.holds("replaced", verbs, text, "xxb");
    }

    private static void promise8PhrasesOfOneSortAlone() {
        Expect.sentence(8, "a tallying one takes no place from a replacing one");
        TextVerbs verbs = new TextVerbs();
        int text = Expect.text(verbs, "aab");
        int aa = Expect.text(verbs, "aa");
        int ab = Expect.text(verbs, "ab");
        int xy = Expect.text(verbs, "xy");
        verbs.tally(ALL, aa, 0);
        verbs.replace(ALL, ab, xy);
        verbs.tally(ALL, ab, 1);
        Expect.same("replaced", verbs.inspect(text), 1);
        Expect.holds("replaced", verbs, text, "axy");
        Expect.same("aa", verbs.counter(0), 1);
        Expect.same("ab overlaps aa", verbs.counter(1), 0);
    }

    private static void promise8RegionsAsAtTheBeginning() {
        Expect.sentence(8, "regions are those of the text as it is at the beginning of each");
        TextVerbs verbs = new TextVerbs();
        int text = Expect.text(verbs, "ab,ab,");
        int comma = Expect.text(verbs, ",");
        int a = Expect.text(verbs, "a");
        int b = Expect.text(verbs, "b");
        int x = Expect.text(verbs, "x");
        verbs.replace(ALL, comma, x);
        verbs.span(false, comma);
        verbs.replace(ALL, a, x);
        verbs.span(true, comma);
        verbs.replace(ALL, b, x);
        Expect.same("replaced", verbs.inspect(text), 4);
        Expect.holds("the commas were there at the beginning", verbs, text, "xbxaxx");
        int other = Expect.text(verbs, "ba");
        verbs.replace(ALL, b, a);
        verbs.span(true, a);
        verbs.replace(ALL, a, x);
        Expect.same("what is put there is no occurrence", verbs.inspect(other), 1);
        Expect.holds("what is put there is no occurrence", verbs, other, "aa");
    }

    private static void promise8TextsAsAtTheBeginningOfInspect() {
        Expect.sentence(8, "Phrases' texts are as they are at the beginning, not as when they were collected");
        TextVerbs verbs = new TextVerbs();
        int text = Expect.text(verbs, "ab,cd");
        int sought = Expect.text(verbs, "a");
        int put = Expect.text(verbs, "x");
        int bound = Expect.text(verbs, "z");
        verbs.span(true, bound);
        verbs.replace(ALL, sought, put);
        verbs.tally(ALL, sought, 0);
        verbs.set(sought, 0, 'c');
        verbs.set(put, 0, 'y');
        verbs.set(bound, 0, ',');
        Expect.same("replaced", verbs.inspect(text), 1);
        Expect.holds("as they are now", verbs, text, "ab,yd");
        Expect.same("tallied", verbs.counter(0), 1);
    }

    private static void promise8SoughtIsTheInspectedText() {
        Expect.sentence(8, "Phrases' texts are as they are at the beginning: what is sought is inspected");
        TextVerbs verbs = new TextVerbs();
        int a = Expect.text(verbs, "a");
        int x = Expect.text(verbs, "x");
        verbs.tally(ALL, a, 0);
        verbs.replace(ALL, a, x);
        Expect.same("it occurs in itself", verbs.inspect(a), 1);
        Expect.same("it occurs in itself", verbs.counter(0), 1);
        Expect.holds("replaced", verbs, a, "x");
    }

    private static void promise8PutIsTheInspectedText() {
        Expect.sentence(8, "Phrases' texts are as they are at the beginning: what is put is inspected");
        TextVerbs verbs = new TextVerbs();
        int text = Expect.text(verbs, "abc");
        int abc = Expect.text(verbs, "abc");
        int a = Expect.text(verbs, "a");
        int bc = Expect.text(verbs, "bc");
        int x = Expect.text(verbs, "x");
        verbs.replace(FIRST, abc, text);
        Expect.same("by itself", verbs.inspect(text), 1);
        Expect.holds("by itself", verbs, text, "abc");
        verbs.replace(ALL, a, x);
        verbs.replace(ALL, x, a);
        Expect.same("a text that is changed", verbs.inspect(a), 1);
        Expect.holds("a text that is changed", verbs, a, "x");
        int pair = Expect.text(verbs, "pq");
        verbs.replace(ALL, pair, bc);
        Expect.same("what is put is another one", verbs.inspect(pair), 1);
        Expect.holds("what is put is another one", verbs, pair, "bc");
    }

    private static void promise8SpanIsTheInspectedText() {
        Expect.sentence(8, "Phrases' texts are as they are at the beginning: the span is inspected");
        TextVerbs verbs = new TextVerbs();
        int ab = Expect.text(verbs, "ab");
        int x = Expect.text(verbs, "x");
        verbs.span(true, ab);
        verbs.replace(CHARACTERS, 0, x);
        verbs.span(false, ab);
        verbs.tally(CHARACTERS, 0, 0);
        Expect.same("nothing lies behind itself", verbs.inspect(ab), 0);
        Expect.same("nothing lies ahead of itself", verbs.counter(0), 0);
        Expect.holds("unchanged", verbs, ab, "ab");
    }

    private static void promise8NoSuchText() {
        Expect.sentence(8, "IllegalArgumentException when there is no such text");
        TextVerbs verbs = new TextVerbs();
        verbs.text(3);
        for (int text : new int[] {-1, 1, 39, 40, LEAST, GREATEST}) {
            Expect.badArgument("text " + text, () -> verbs.inspect(text));
        }
        Expect.same("a right call behind it", verbs.inspect(0), 0);
    }

    private static void promise8RefusedKeepsAll() {
        Expect.sentence(8, "by all phrases, which go: not with a refused inspection");
        TextVerbs verbs = new TextVerbs();
        int text = Expect.text(verbs, "abc");
        int b = Expect.text(verbs, "b");
        int x = Expect.text(verbs, "x");
        verbs.tally(ALL, b, 0);
        verbs.replace(ALL, b, x);
        verbs.span(true, x);
        Expect.badArgument("no text", () -> verbs.inspect(3));
        Expect.same("nothing was tallied", verbs.counter(0), 0);
        Expect.same("the span is there for the third", verbs.replace(CHARACTERS, 0, x), 3);
        Expect.same("the two act", verbs.inspect(text), 1);
        Expect.same("the two act", verbs.counter(0), 1);
        Expect.holds("the two act", verbs, text, "axc");
    }

    private static void converted(String old, String from, String to, String due, int times) {
        TextVerbs verbs = new TextVerbs();
        int text = Expect.text(verbs, old);
        int olds = Expect.text(verbs, from);
        int news = Expect.text(verbs, to);
        String what = old + " from " + from + " to " + to;
        Expect.same(what, verbs.convert(text, olds, news), times);
        Expect.holds(what, verbs, text, due);
        Expect.holds("from", verbs, olds, from);
        Expect.holds("to", verbs, news, to);
    }

    private static void promise9FirstOneOfFrom() {
        Expect.sentence(9, "becomes to's at the place of the first one");
        converted("aba", "aa", "xy", "xbx", 2);
        converted("aba", "baba", "wxyz", "xwx", 3);
        converted("abc", "abc", "xyz", "xyz", 3);
        converted("c", "abc", "xyz", "z", 1);
    }

    private static void promise9ConvertedOnce() {
        Expect.sentence(9, "Each sign becomes to's: once");
        converted("abc", "abc", "bca", "bca", 3);
        converted("ab", "ab", "ba", "ba", 2);
    }

    private static void promise9HowManyThereWere() {
        Expect.sentence(9, "how many there were");
        converted("abc", "x", "y", "abc", 0);
        converted("aba", "a", "a", "aba", 2);
        converted("a", "a", "x", "x", 1);
    }

    private static void promise9EmptyTexts() {
        Expect.sentence(9, "from and to of one size: empty ones");
        converted("abc", "", "", "abc", 0);
        converted("", "", "", "", 0);
        converted("", "a", "b", "", 0);
    }

    private static void promise9LongestTexts() {
        Expect.sentence(9, "Each sign in the region: sixty");
        converted("a".repeat(60), "a", "x", "x".repeat(60), 60);
        converted("b".repeat(59) + "c", "a".repeat(58) + "bc", "w".repeat(58) + "yz", "y".repeat(59) + "z", 60);
    }

    private static void promise9FirstAndLastSign() {
        Expect.sentence(9, "Each sign: 0 and 255, too");
        converted("\0a\u00ff", "\0\u00ff", "\u00ff\0", "\u00ffa\0", 2);
        converted(" a ", " ", "_", "_a_", 2);
    }

    private static void promise9Region() {
        Expect.sentence(9, "Each sign in the region by the spans");
        TextVerbs verbs = new TextVerbs();
        int a = Expect.text(verbs, "a");
        int x = Expect.text(verbs, "x");
        int comma = Expect.text(verbs, ",");
        int dot = Expect.text(verbs, ".");
        int text = Expect.text(verbs, "a,aa.a");
        verbs.span(true, comma);
        verbs.span(false, dot);
        Expect.same("between both", verbs.convert(text, a, x), 2);
        Expect.holds("between both", verbs, text, "a,xx.a");
        verbs.span(true, dot);
        verbs.span(false, comma);
        Expect.same("BEFORE lies ahead of AFTER", verbs.convert(text, a, x), 0);
        verbs.span(true, a);
        verbs.span(false, a);
        Expect.same("one text for both", verbs.convert(text, a, x), 0);
        verbs.span(false, comma);
        Expect.same("BEFORE alone", verbs.convert(text, a, x), 1);
        verbs.span(true, dot);
        Expect.same("AFTER alone", verbs.convert(text, a, x), 1);
        Expect.holds("all are converted", verbs, text, "x,xx.x");
        verbs.span(true, a);
        Expect.same("AFTER without any", verbs.convert(text, x, a), 0);
        verbs.span(false, a);
        Expect.same("BEFORE without any", verbs.convert(text, x, a), 4);
    }

    private static void promise9SpansGo() {
        Expect.sentence(9, "the region by the spans (which go)");
        TextVerbs verbs = new TextVerbs();
        int text = Expect.text(verbs, "aba");
        int a = Expect.text(verbs, "a");
        int b = Expect.text(verbs, "b");
        int empty = verbs.text(0);
        verbs.span(true, b);
        verbs.span(false, b);
        Expect.same("nothing in the region", verbs.convert(text, a, b), 0);
        Expect.same("both are gone", verbs.convert(text, a, a), 2);
        verbs.span(true, b);
        Expect.same("a conversion by empty texts takes them, too", verbs.convert(text, empty, empty), 0);
        Expect.same("they are gone", verbs.convert(text, a, a), 2);
    }

    private static void promise9NoSuchText() {
        Expect.sentence(9, "IllegalArgumentException when there is no such text");
        TextVerbs verbs = new TextVerbs();
        int text = Expect.text(verbs, "aa");
        int a = Expect.text(verbs, "a");
        int x = Expect.text(verbs, "x");
        for (int none : new int[] {-1, 3, 39, 40, LEAST, GREATEST}) {
            Expect.badArgument("text " + none, () -> verbs.convert(none, a, x));
            Expect.badArgument("from " + none, () -> verbs.convert(text, none, x));
            Expect.badArgument("to " + none, () -> verbs.convert(text, a, none));
            Expect.badArgument("all " + none, () -> verbs.convert(none, none, none));
        }
        Expect.holds("unchanged", verbs, text, "aa");
        Expect.same("a right call behind it", verbs.convert(text, a, x), 2);
    }

    private static void promise9NotOfOneSize() {
        Expect.sentence(9, "IllegalArgumentException when from and to are not of one size");
        TextVerbs verbs = new TextVerbs();
        int text = Expect.text(verbs, "aa");
        int a = Expect.text(verbs, "a");
        int xy = Expect.text(verbs, "xy");
        int empty = verbs.text(0);
        Expect.badArgument("one more", () -> verbs.convert(text, a, xy));
        Expect.badArgument("one less", () -> verbs.convert(text, xy, a));
        Expect.badArgument("to is empty", () -> verbs.convert(text, a, empty));
        Expect.badArgument("from is empty", () -> verbs.convert(text, empty, a));
        Expect.badArgument("in an empty text, too", () -> verbs.convert(empty, a, xy));
        Expect.holds("unchanged", verbs, text, "aa");
    }

    private static void promise9RefusedKeepsAll() {
        Expect.sentence(9, "the spans (which go): not with a refused conversion");
        TextVerbs verbs = new TextVerbs();
        int text = Expect.text(verbs, "aba");
        int a = Expect.text(verbs, "a");
        int b = Expect.text(verbs, "b");
        verbs.span(true, b);
        Expect.badArgument("no text", () -> verbs.convert(3, a, b));
        Expect.badArgument("not of one size", () -> verbs.convert(text, text, b));
        Expect.same("the span is there", verbs.convert(text, a, b), 1);
        Expect.holds("the span is there", verbs, text, "abb");
    }

    private static void promise9LeavesPhrases() {
        Expect.sentence(9, "the spans (which go): phrases stay, and keep theirs");
        TextVerbs verbs = new TextVerbs();
        int text = Expect.text(verbs, "aba");
        int a = Expect.text(verbs, "a");
        int b = Expect.text(verbs, "b");
        verbs.span(true, b);
        verbs.tally(ALL, a, 0);
        Expect.same("all of it", verbs.convert(text, a, a), 2);
        Expect.same("the next phrase is the second", verbs.tally(ALL, b, 1), 2);
        verbs.inspect(text);
        Expect.same("behind the span", verbs.counter(0), 1);
        Expect.same("without a span", verbs.counter(1), 1);
    }

    private static void promise10BecomesZero() {
        Expect.sentence(10, "A counter, which becomes 0 then");
        TextVerbs verbs = new TextVerbs();
        int text = Expect.text(verbs, "abc");
        verbs.tally(CHARACTERS, 0, 4);
        verbs.inspect(text);
        Expect.same("the first time", verbs.counter(4), 3);
        Expect.same("the second time", verbs.counter(4), 0);
        verbs.tally(CHARACTERS, 0, 4);
        verbs.inspect(text);
        Expect.same("it begins at 0 again", verbs.counter(4), 3);
    }

    private static void promise10FirstAndLast() {
        Expect.sentence(10, "a COUNTER (0 .. 9)");
        TextVerbs verbs = new TextVerbs();
        int text = Expect.text(verbs, "abc");
        verbs.tally(CHARACTERS, 0, 0);
        verbs.inspect(text);
        verbs.tally(CHARACTERS, 0, 9);
        verbs.inspect(text);
        Expect.same("the last", verbs.counter(9), 3);
        Expect.same("the first is left", verbs.counter(0), 3);
    }

    private static void promise10NoneSuch() {
        Expect.sentence(10, "IllegalArgumentException when there is none such");
        TextVerbs verbs = new TextVerbs();
        for (int k : new int[] {-1, 10, 11, LEAST, GREATEST}) {
            Expect.badArgument("counter " + k, () -> verbs.counter(k));
        }
        Expect.same("a right call behind it", verbs.counter(9), 0);
    }

    private static void promise10RefusedKeepsCounters() {
        Expect.sentence(10, "which becomes 0 then: not with a refused call");
        TextVerbs verbs = new TextVerbs();
        int text = Expect.text(verbs, "abc");
        verbs.tally(CHARACTERS, 0, 0);
        verbs.inspect(text);
        verbs.tally(CHARACTERS, 0, 9);
        verbs.inspect(text);
        Expect.badArgument("counter -1", () -> verbs.counter(-1));
        Expect.badArgument("counter 10", () -> verbs.counter(10));
        Expect.same("counter 0", verbs.counter(0), 3);
        Expect.same("counter 9", verbs.counter(9), 3);
    }

    private static void promise10AddsUp() {
        Expect.sentence(10, "TALLYING ones add 1 to a COUNTER");
        TextVerbs verbs = new TextVerbs();
        int text = verbs.text(60);
        for (int k = 0; k < 200; k++) {
            verbs.tally(CHARACTERS, 0, 7);
            verbs.inspect(text);
        }
        Expect.same("200 times sixty", verbs.counter(7), 12000);
    }
}
