/** The boundary cases of promises 6 and 7, tallying and replacing phrases: a test for each sentence. */
public final class EdgesPhraseTest {
    private static final int CHARACTERS = 0;
    private static final int ALL = 1;
    private static final int LEADING = 2;
    private static final int FIRST = 3;
    private static final int LEAST = Integer.MIN_VALUE;
    private static final int GREATEST = Integer.MAX_VALUE;

    public static void main(String[] args) {
        promise6Kinds();
        promise6NoSuchKind();
        promise6TextIsNotLookedAtForCharacters();
        promise6NoSuchText();
        promise6EmptyText();
        promise6FirstAndLastCounter();
        promise6NoSuchCounter();
        promise6HowManyThereAre();
        promise6AtMostTwenty();
        promise6ArgumentsAreLookedAtFirst();
        promise6SpansGo();
        promise6RefusedKeepsSpans();
        promise6CharactersMatchEachSign();
        promise6AllWhereverItMay();
        promise6AllAtBothEnds();
        promise6LeadingAtTheBeginning();
        promise6LeadingWithoutABreak();
        promise6LeadingBehindItsOwnMatchesAlone();
        promise6LeadingToTheEnd();
        promise6FirstThatMatchesActs();
        promise6GoesOnBehindWhatMatched();
        promise7Kinds();
        promise7NoSuchKind();
        promise7TextIsNotLookedAtForCharacters();
        promise7NoSuchText();
        promise7EmptyText();
        promise7NothingToPut();
        promise7NotOfThatSize();
        promise7NotOfSizeOneForCharacters();
        promise7LongestText();
        promise7AtMostTwenty();
        promise7ArgumentsAreLookedAtFirst();
        promise7SpansGo();
        promise7RefusedKeepsSpans();
        promise7FirstIsOnce();
        promise7FirstWithoutAny();
        promise7FirstForEachPhrase();
        promise7FirstAgainInTheNextInspection();
        promise7FirstInItsRegion();
        promise7LeadingOnly();
        Expect.end();
    }

    private static int tallied(String inspected, int kind, String sought) {
        TextVerbs verbs = new TextVerbs();
        int text = Expect.text(verbs, inspected);
        verbs.tally(kind, Expect.text(verbs, sought), 0);
        verbs.inspect(text);
        return verbs.counter(0);
    }

    private static void replaced(String inspected, int kind, String sought, String put, String due, int times) {
        TextVerbs verbs = new TextVerbs();
        int text = Expect.text(verbs, inspected);
        int from = Expect.text(verbs, sought);
        verbs.replace(kind, from, Expect.text(verbs, put));
        String what = inspected + " by kind " + kind + " " + sought;
        Expect.same(what, verbs.inspect(text), times);
        Expect.holds(what, verbs, text, due);
    }

    private static void promise6Kinds() {
        Expect.sentence(6, "kind = 0 .. 2");
        Expect.same("0", tallied("aaba", CHARACTERS, "a"), 4);
        Expect.same("1", tallied("aaba", ALL, "a"), 3);
        Expect.same("2", tallied("aaba", LEADING, "a"), 2);
    }

    private static void promise6NoSuchKind() {
        Expect.sentence(6, "IllegalArgumentException when kind is not so");
        TextVerbs verbs = new TextVerbs();
        int a = Expect.text(verbs, "a");
        for (int kind : new int[] {-1, 3, 4, LEAST, GREATEST}) {
            Expect.badArgument("kind " + kind, () -> verbs.tally(kind, a, 0));
        }
        Expect.same("no phrase was collected", verbs.tally(ALL, a, 0), 1);
        verbs.inspect(a);
        Expect.same("it tallies", verbs.counter(0), 1);
    }

    private static void promise6TextIsNotLookedAtForCharacters() {
        Expect.sentence(6, "its text (not looked at for 0)");
        TextVerbs verbs = new TextVerbs();
        int abc = Expect.text(verbs, "abc");
        int empty = verbs.text(0);
        int[] texts = {empty, -1, 2, 40, LEAST, GREATEST};
        for (int from : texts) {
            Expect.same("text " + from, verbs.tally(CHARACTERS, from, 0), 1);
            verbs.inspect(abc);
            Expect.same("text " + from, verbs.counter(0), 3);
        }
    }

    private static void promise6NoSuchText() {
        Expect.sentence(6, "IllegalArgumentException when text is not so");
        TextVerbs verbs = new TextVerbs();
        int a = Expect.text(verbs, "a");
        for (int from : new int[] {-1, 1, 39, 40, LEAST, GREATEST}) {
            Expect.badArgument("ALL, text " + from, () -> verbs.tally(ALL, from, 0));
            Expect.badArgument("LEADING, text " + from, () -> verbs.tally(LEADING, from, 0));
        }
        Expect.same("no phrase was collected", verbs.tally(ALL, a, 0), 1);
    }

    private static void promise6EmptyText() {
        Expect.sentence(6, "IllegalArgumentException when text (or it is empty) is not so");
        TextVerbs verbs = new TextVerbs();
        int empty = verbs.text(0);
        int a = Expect.text(verbs, "a");
        Expect.badArgument("ALL", () -> verbs.tally(ALL, empty, 0));
        Expect.badArgument("LEADING", () -> verbs.tally(LEADING, empty, 0));
        Expect.same("no phrase was collected", verbs.tally(LEADING, a, 0), 1);
    }

    private static void promise6FirstAndLastCounter() {
        Expect.sentence(6, "a COUNTER (0 .. 9)");
        TextVerbs verbs = new TextVerbs();
        int abc = Expect.text(verbs, "abc");
        int a = Expect.text(verbs, "a");
        verbs.tally(ALL, a, 0);
        verbs.tally(CHARACTERS, 0, 9);
        verbs.inspect(abc);
        for (int k = 0; k <= 9; k++) {
            Expect.same("counter " + k, verbs.counter(k), k == 0 ? 1 : k == 9 ? 2 : 0);
        }
    }

    private static void promise6NoSuchCounter() {
        Expect.sentence(6, "IllegalArgumentException when counter is not so");
        TextVerbs verbs = new TextVerbs();
        int a = Expect.text(verbs, "a");
        for (int counter : new int[] {-1, 10, 11, LEAST, GREATEST}) {
            Expect.badArgument("ALL, counter " + counter, () -> verbs.tally(ALL, a, counter));
            Expect.badArgument("CHARACTERS, counter " + counter, () -> verbs.tally(CHARACTERS, 0, counter));
        }
        Expect.same("no phrase was collected", verbs.tally(ALL, a, 9), 1);
        verbs.inspect(a);
        Expect.same("it tallies", verbs.counter(9), 1);
    }

    private static void promise6HowManyThereAre() {
        Expect.sentence(6, "how many phrases there are");
        TextVerbs verbs = new TextVerbs();
        int a = Expect.text(verbs, "a");
        Expect.same("the first", verbs.tally(ALL, a, 0), 1);
        Expect.same("the second, a replacing one", verbs.replace(ALL, a, a), 2);
        Expect.same("the third", verbs.tally(CHARACTERS, 0, 0), 3);
        verbs.inspect(a);
        Expect.same("the first again", verbs.tally(ALL, a, 0), 1);
    }

    private static void promise6AtMostTwenty() {
        Expect.sentence(6, "IllegalStateException when there are 20");
        TextVerbs verbs = new TextVerbs();
        int ab = Expect.text(verbs, "ab");
        int a = Expect.text(verbs, "a");
        int b = Expect.text(verbs, "b");
        for (int k = 1; k < 20; k++) {
            Expect.same("phrase " + k, verbs.tally(ALL, a, 0), k);
        }
        Expect.same("the 20th", verbs.tally(ALL, b, 1), 20);
        Expect.badState("the 21st", () -> verbs.tally(ALL, b, 2));
        Expect.badState("the 21st, CHARACTERS", () -> verbs.tally(CHARACTERS, 0, 2));
        Expect.badState("the 21st, LEADING", () -> verbs.tally(LEADING, a, 2));
        verbs.inspect(ab);
        Expect.same("the first acted", verbs.counter(0), 1);
        Expect.same("the 20th acted", verbs.counter(1), 1);
        Expect.same("the 21st is not there", verbs.counter(2), 0);
        Expect.same("there is room again", verbs.tally(ALL, b, 2), 1);
    }

    private static void promise6ArgumentsAreLookedAtFirst() {
        Expect.sentence(6, "IllegalArgumentException when .. is not so, else IllegalStateException");
        TextVerbs verbs = new TextVerbs();
        int a = Expect.text(verbs, "a");
        int empty = verbs.text(0);
        for (int k = 0; k < 20; k++) {
            verbs.tally(ALL, a, 0);
        }
        Expect.badArgument("kind -1", () -> verbs.tally(-1, a, 0));
        Expect.badArgument("kind 3", () -> verbs.tally(FIRST, a, 0));
        Expect.badArgument("no text", () -> verbs.tally(ALL, 2, 0));
        Expect.badArgument("an empty text", () -> verbs.tally(LEADING, empty, 0));
        Expect.badArgument("counter -1", () -> verbs.tally(ALL, a, -1));
        Expect.badArgument("counter 10", () -> verbs.tally(CHARACTERS, 0, 10));
        Expect.badState("only that there are 20", () -> verbs.tally(ALL, a, 0));
        verbs.inspect(a);
        Expect.same("the phrases are as they were", verbs.counter(0), 1);
    }

    private static void promise6SpansGo() {
        Expect.sentence(6, "the spans are its, and go");
        TextVerbs verbs = new TextVerbs();
        int text = Expect.text(verbs, "abcd");
        int b = Expect.text(verbs, "b");
        int d = Expect.text(verbs, "d");
        verbs.span(true, b);
        verbs.span(false, d);
        verbs.tally(CHARACTERS, 0, 0);
        verbs.tally(CHARACTERS, 0, 1);
        verbs.inspect(text);
        Expect.same("they are its", verbs.counter(0), 1);
        Expect.same("they are gone", verbs.counter(1), 3);
    }

    private static void promise6RefusedKeepsSpans() {
        Expect.sentence(6, "the spans are its, and go: not with a refused phrase");
        TextVerbs verbs = new TextVerbs();
        int text = Expect.text(verbs, "abcd");
        int b = Expect.text(verbs, "b");
        int d = Expect.text(verbs, "d");
        for (int k = 0; k < 20; k++) {
            verbs.tally(ALL, b, 0);
        }
        verbs.span(true, b);
        verbs.span(false, d);
        Expect.badState("there are 20", () -> verbs.tally(CHARACTERS, 0, 1));
        Expect.badArgument("a wrong one", () -> verbs.tally(CHARACTERS, 0, 10));
        verbs.inspect(text);
        verbs.tally(CHARACTERS, 0, 1);
        verbs.inspect(text);
        Expect.same("the next phrase has them", verbs.counter(1), 1);
    }

    private static void promise6CharactersMatchEachSign() {
        Expect.sentence(6, "CHARACTERS (0) match each one sign there");
        Expect.same("no sign", tallied("", CHARACTERS, "a"), 0);
        Expect.same("one sign", tallied("b", CHARACTERS, "a"), 1);
        Expect.same("sixty signs", tallied("b".repeat(60), CHARACTERS, "a"), 60);
    }

    private static void promise6AllWhereverItMay() {
        Expect.sentence(6, "ALL (1): wherever it may");
        Expect.same("none", tallied("bbb", ALL, "a"), 0);
        Expect.same("each place", tallied("a".repeat(60), ALL, "a"), 60);
        Expect.same("in pairs", tallied("a".repeat(60), ALL, "aa"), 30);
        Expect.same("in an empty text", tallied("", ALL, "a"), 0);
    }

    private static void promise6AllAtBothEnds() {
        Expect.sentence(6, "ALL (1): wherever it may, at both ends");
        Expect.same("the first and the last place", tallied("abxab", ALL, "ab"), 2);
        Expect.same("all of the text", tallied("ab", ALL, "ab"), 1);
        Expect.same("longer than the text", tallied("ab", ALL, "abc"), 0);
        Expect.same("begun at the last place", tallied("xxa", ALL, "ab"), 0);
        Expect.same("sixty in sixty", tallied("a".repeat(60), ALL, "a".repeat(60)), 1);
        Expect.same("sixty in fifty-nine", tallied("a".repeat(59), ALL, "a".repeat(60)), 0);
    }

    private static void promise6LeadingAtTheBeginning() {
        Expect.sentence(6, "LEADING (2): at the region's beginning");
        Expect.same("there", tallied("aba", LEADING, "a"), 1);
        Expect.same("not there", tallied("baa", LEADING, "a"), 0);
        Expect.same("in an empty text", tallied("", LEADING, "a"), 0);
        TextVerbs verbs = new TextVerbs();
        int text = Expect.text(verbs, "aabaab");
        int a = Expect.text(verbs, "a");
        int b = Expect.text(verbs, "b");
        verbs.span(true, b);
        verbs.tally(LEADING, a, 0);
        verbs.span(true, a);
        verbs.tally(LEADING, b, 1);
        verbs.inspect(text);
        Expect.same("behind the first b", verbs.counter(0), 2);
        Expect.same("no b behind the first a", verbs.counter(1), 0);
    }

    private static void promise6LeadingWithoutABreak() {
        Expect.sentence(6, "LEADING (2): just behind each of its own matches, without a break");
        Expect.same("broken once", tallied("aabaa", LEADING, "a"), 2);
        Expect.same("half a match at the end", tallied("ababa", LEADING, "ab"), 2);
        Expect.same("shifted by one", tallied("abaab", LEADING, "ab"), 1);
    }

    private static void promise6LeadingBehindItsOwnMatchesAlone() {
        Expect.sentence(6, "LEADING (2): behind each of its own matches, not behind another's");
        TextVerbs verbs = new TextVerbs();
        int text = Expect.text(verbs, "abab");
        int a = Expect.text(verbs, "a");
        int b = Expect.text(verbs, "b");
        verbs.tally(ALL, b, 0);
        verbs.tally(LEADING, a, 1);
        verbs.inspect(text);
        Expect.same("the other one", verbs.counter(0), 2);
        Expect.same("LEADING is broken by it", verbs.counter(1), 1);
        verbs.tally(ALL, a, 0);
        verbs.tally(LEADING, a, 1);
        verbs.tally(LEADING, b, 2);
        verbs.inspect(text);
        Expect.same("the other one took its beginning", verbs.counter(1), 0);
        Expect.same("and b never was at the beginning", verbs.counter(2), 0);
    }

    private static void promise6LeadingToTheEnd() {
        Expect.sentence(6, "LEADING (2): to the very end");
        Expect.same("all of it", tallied("a".repeat(60), LEADING, "a"), 60);
        Expect.same("one match is all", tallied("ab", LEADING, "ab"), 1);
        Expect.same("longer than the text", tallied("a", LEADING, "ab"), 0);
    }

    private static void promise6FirstThatMatchesActs() {
        Expect.sentence(6, "phrases are asked in their order; the first one that matches acts");
        TextVerbs verbs = new TextVerbs();
        int text = Expect.text(verbs, "aab");
        int a = Expect.text(verbs, "a");
        int aa = Expect.text(verbs, "aa");
        verbs.tally(ALL, aa, 0);
        verbs.tally(ALL, a, 1);
        verbs.tally(CHARACTERS, 0, 2);
        verbs.inspect(text);
        Expect.same("the longer one first", verbs.counter(0), 1);
        Expect.same("nothing is left for the second", verbs.counter(1), 0);
        Expect.same("the rest", verbs.counter(2), 1);
        verbs.tally(ALL, a, 1);
        verbs.tally(ALL, aa, 0);
        verbs.tally(ALL, a, 2);
        verbs.inspect(text);
        Expect.same("the shorter one first", verbs.counter(1), 2);
        Expect.same("nothing is left for the longer one", verbs.counter(0), 0);
        Expect.same("nothing for the same once more", verbs.counter(2), 0);
    }

    private static void promise6GoesOnBehindWhatMatched() {
        Expect.sentence(6, "it goes on behind what matched; if none does, at the next place");
        Expect.same("no overlap", tallied("aaa", ALL, "aa"), 1);
        Expect.same("no overlap in ababa", tallied("ababa", ALL, "aba"), 1);
        Expect.same("at the next place", tallied("aaab", ALL, "ab"), 1);
        Expect.same("just behind", tallied("abab", ALL, "ab"), 2);
    }

    private static void promise7Kinds() {
        Expect.sentence(7, "kind = 0 .. 3");
        replaced("aaba", CHARACTERS, "a", "x", "xxxx", 4);
        replaced("aaba", ALL, "a", "x", "xxbx", 3);
        replaced("aaba", LEADING, "a", "x", "xxba", 2);
        replaced("baab", FIRST, "a", "x", "bxab", 1);
    }

    private static void promise7NoSuchKind() {
        Expect.sentence(7, "Throws as tally: kind is not so");
        TextVerbs verbs = new TextVerbs();
        int a = Expect.text(verbs, "a");
        for (int kind : new int[] {-1, 4, 5, LEAST, GREATEST}) {
            Expect.badArgument("kind " + kind, () -> verbs.replace(kind, a, a));
        }
        Expect.same("no phrase was collected", verbs.replace(FIRST, a, a), 1);
        Expect.same("it replaces", verbs.inspect(a), 1);
    }

    private static void promise7TextIsNotLookedAtForCharacters() {
        Expect.sentence(7, "its text (not looked at for 0)");
        TextVerbs verbs = new TextVerbs();
        int abc = Expect.text(verbs, "abc");
        int x = Expect.text(verbs, "x");
        int empty = verbs.text(0);
        for (int from : new int[] {abc, empty, -1, 3, 40, LEAST, GREATEST}) {
            Expect.same("text " + from, verbs.replace(CHARACTERS, from, x), 1);
            Expect.same("text " + from, verbs.inspect(abc), 3);
        }
        Expect.holds("all are replaced", verbs, abc, "xxx");
    }

    private static void promise7NoSuchText() {
        Expect.sentence(7, "Throws as tally: text is not so");
        TextVerbs verbs = new TextVerbs();
        int a = Expect.text(verbs, "a");
        for (int from : new int[] {-1, 1, 39, 40, LEAST, GREATEST}) {
            for (int kind = ALL; kind <= FIRST; kind++) {
                int asked = kind;
                Expect.badArgument("kind " + kind + ", text " + from, () -> verbs.replace(asked, from, a));
            }
        }
        Expect.same("no phrase was collected", verbs.replace(ALL, a, a), 1);
    }

    private static void promise7EmptyText() {
        Expect.sentence(7, "Throws as tally: text (or it is empty) is not so");
        TextVerbs verbs = new TextVerbs();
        int a = Expect.text(verbs, "a");
        int empty = verbs.text(0);
        for (int kind = ALL; kind <= FIRST; kind++) {
            int asked = kind;
            Expect.badArgument("an empty one by an empty one", () -> verbs.replace(asked, empty, empty));
            Expect.badArgument("an empty one by a sign", () -> verbs.replace(asked, empty, a));
        }
        Expect.same("no phrase was collected", verbs.replace(ALL, a, a), 1);
    }

    private static void promise7NothingToPut() {
        Expect.sentence(7, "what is put there: no such text");
        TextVerbs verbs = new TextVerbs();
        int a = Expect.text(verbs, "a");
        for (int to : new int[] {-1, 1, 39, 40, LEAST, GREATEST}) {
            Expect.badArgument("CHARACTERS, text " + to, () -> verbs.replace(CHARACTERS, a, to));
            Expect.badArgument("ALL, text " + to, () -> verbs.replace(ALL, a, to));
            Expect.badArgument("FIRST, text " + to, () -> verbs.replace(FIRST, a, to));
        }
        Expect.same("no phrase was collected", verbs.replace(ALL, a, a), 1);
    }

    private static void promise7NotOfThatSize() {
        Expect.sentence(7, "IllegalArgumentException also when to is not of that size");
        TextVerbs verbs = new TextVerbs();
        int text = Expect.text(verbs, "abab");
        int ab = Expect.text(verbs, "ab");
        int x = Expect.text(verbs, "x");
        int xyz = Expect.text(verbs, "xyz");
        int empty = verbs.text(0);
        for (int kind = ALL; kind <= FIRST; kind++) {
            int asked = kind;
            Expect.badArgument("one less", () -> verbs.replace(asked, ab, x));
            Expect.badArgument("one more", () -> verbs.replace(asked, ab, xyz));
            Expect.badArgument("empty", () -> verbs.replace(asked, ab, empty));
        }
        Expect.same("nothing was collected", verbs.inspect(text), 0);
        Expect.holds("nothing was replaced", verbs, text, "abab");
        Expect.same("of that size", verbs.replace(ALL, ab, ab), 1);
    }

    private static void promise7NotOfSizeOneForCharacters() {
        Expect.sentence(7, "put a text of the same size (for CHARACTERS of size 1) there");
        TextVerbs verbs = new TextVerbs();
        int ab = Expect.text(verbs, "ab");
        int x = Expect.text(verbs, "x");
        int empty = verbs.text(0);
        Expect.badArgument("two signs", () -> verbs.replace(CHARACTERS, ab, ab));
        Expect.badArgument("no sign", () -> verbs.replace(CHARACTERS, empty, empty));
        Expect.same("one sign, whatever the size of from", verbs.replace(CHARACTERS, ab, x), 1);
        Expect.same("it acts", verbs.inspect(ab), 2);
        Expect.holds("it acts", verbs, ab, "xx");
    }

    private static void promise7LongestText() {
        Expect.sentence(7, "put a text of the same size: sixty signs");
        String many = "ab".repeat(30);
        String others = "xy".repeat(30);
        for (int kind = ALL; kind <= FIRST; kind++) {
            replaced(many, kind, many, others, others, 1);
        }
        replaced(many, FIRST, "b".repeat(60), others, many, 0);
    }

    private static void promise7AtMostTwenty() {
        Expect.sentence(7, "Throws as tally: IllegalStateException when there are 20");
        TextVerbs verbs = new TextVerbs();
        int text = Expect.text(verbs, "abc");
        int a = Expect.text(verbs, "a");
        int b = Expect.text(verbs, "b");
        int c = Expect.text(verbs, "c");
        int x = Expect.text(verbs, "x");
        for (int k = 1; k < 20; k++) {
            Expect.same("phrase " + k, verbs.replace(ALL, a, x), k);
        }
        Expect.same("the 20th", verbs.replace(ALL, b, x), 20);
        Expect.badState("the 21st", () -> verbs.replace(ALL, c, x));
        Expect.badState("the 21st, CHARACTERS", () -> verbs.replace(CHARACTERS, 0, x));
        Expect.badState("the 21st, FIRST", () -> verbs.replace(FIRST, c, x));
        Expect.badState("the 21st, a tallying one", () -> verbs.tally(CHARACTERS, 0, 0));
        Expect.same("the 20 act", verbs.inspect(text), 2);
        Expect.holds("the 20 act", verbs, text, "xxc");
        Expect.same("no tallying one acted", verbs.counter(0), 0);
        Expect.same("there is room again", verbs.replace(ALL, c, x), 1);
    }

    private static void promise7ArgumentsAreLookedAtFirst() {
        Expect.sentence(7, "IllegalArgumentException first, else IllegalStateException when there are 20");
        TextVerbs verbs = new TextVerbs();
        int a = Expect.text(verbs, "a");
        int ab = Expect.text(verbs, "ab");
        int empty = verbs.text(0);
        for (int k = 0; k < 20; k++) {
            verbs.replace(ALL, a, a);
        }
        Expect.badArgument("kind -1", () -> verbs.replace(-1, a, a));
        Expect.badArgument("kind 4", () -> verbs.replace(4, a, a));
        Expect.badArgument("no text", () -> verbs.replace(ALL, 3, a));
        Expect.badArgument("an empty text", () -> verbs.replace(ALL, empty, empty));
        Expect.badArgument("nothing to put", () -> verbs.replace(ALL, a, 3));
        Expect.badArgument("not of that size", () -> verbs.replace(ALL, a, ab));
        Expect.badArgument("CHARACTERS, not of size 1", () -> verbs.replace(CHARACTERS, ab, ab));
        Expect.badState("only that there are 20", () -> verbs.replace(ALL, ab, ab));
        Expect.same("the phrases are as they were", verbs.inspect(a), 1);
    }

    private static void promise7SpansGo() {
        Expect.sentence(7, "the spans are its, and go (as tally's)");
        TextVerbs verbs = new TextVerbs();
        int text = Expect.text(verbs, "abcd");
        int b = Expect.text(verbs, "b");
        int d = Expect.text(verbs, "d");
        int x = Expect.text(verbs, "x");
        int y = Expect.text(verbs, "y");
        verbs.span(true, b);
        verbs.span(false, d);
        verbs.replace(CHARACTERS, 0, x);
        verbs.replace(CHARACTERS, 0, y);
        Expect.same("all are replaced", verbs.inspect(text), 4);
        Expect.holds("the first has the spans, the second none", verbs, text, "yyxy");
    }

    private static void promise7RefusedKeepsSpans() {
        Expect.sentence(7, "the spans go, not with a refused phrase");
        TextVerbs verbs = new TextVerbs();
        int text = Expect.text(verbs, "abcd");
        int b = Expect.text(verbs, "b");
        int x = Expect.text(verbs, "x");
        for (int k = 0; k < 20; k++) {
            verbs.replace(ALL, x, x);
        }
        verbs.span(true, b);
        Expect.badState("there are 20", () -> verbs.replace(CHARACTERS, 0, x));
        Expect.badArgument("a wrong one", () -> verbs.replace(CHARACTERS, 0, text));
        verbs.inspect(text);
        verbs.replace(CHARACTERS, 0, x);
        Expect.same("the next phrase has them", verbs.inspect(text), 2);
        Expect.holds("the next phrase has them", verbs, text, "abxx");
    }

    private static void promise7FirstIsOnce() {
        Expect.sentence(7, "FIRST (3): once");
        replaced("aaa", FIRST, "a", "x", "xaa", 1);
        replaced("bba", FIRST, "a", "x", "bbx", 1);
        replaced("aaaa", FIRST, "aa", "xy", "xyaa", 1);
        replaced("ab", FIRST, "ab", "xy", "xy", 1);
    }

    private static void promise7FirstWithoutAny() {
        Expect.sentence(7, "FIRST (3): once, if at all");
        replaced("bbb", FIRST, "a", "x", "bbb", 0);
        replaced("", FIRST, "a", "x", "", 0);
        replaced("a", FIRST, "ab", "xy", "a", 0);
    }

    private static void promise7FirstForEachPhrase() {
        Expect.sentence(7, "FIRST (3): once, each phrase for itself");
        TextVerbs verbs = new TextVerbs();
        int text = Expect.text(verbs, "aaaa");
        int a = Expect.text(verbs, "a");
        int x = Expect.text(verbs, "x");
        int y = Expect.text(verbs, "y");
        verbs.replace(FIRST, a, x);
        verbs.replace(FIRST, a, y);
        Expect.same("two phrases", verbs.inspect(text), 2);
        Expect.holds("two phrases", verbs, text, "xyaa");
    }

    private static void promise7FirstAgainInTheNextInspection() {
        Expect.sentence(7, "FIRST (3): once in an inspection");
        TextVerbs verbs = new TextVerbs();
        int text = Expect.text(verbs, "aaa");
        int a = Expect.text(verbs, "a");
        int x = Expect.text(verbs, "x");
        for (int times = 1; times <= 3; times++) {
            verbs.replace(FIRST, a, x);
            Expect.same("inspection " + times, verbs.inspect(text), 1);
        }
        Expect.holds("three inspections", verbs, text, "xxx");
    }

    private static void promise7FirstInItsRegion() {
        Expect.sentence(7, "FIRST (3): once, in the region");
        TextVerbs verbs = new TextVerbs();
        int text = Expect.text(verbs, "a,a,a");
        int a = Expect.text(verbs, "a");
        int comma = Expect.text(verbs, ",");
        int x = Expect.text(verbs, "x");
        verbs.span(true, comma);
        verbs.replace(FIRST, a, x);
        Expect.same("once", verbs.inspect(text), 1);
        Expect.holds("behind the comma", verbs, text, "a,x,a");
        verbs.span(false, a);
        verbs.replace(FIRST, comma, x);
        Expect.same("none in an empty region", verbs.inspect(text), 0);
    }

    private static void promise7LeadingOnly() {
        Expect.sentence(7, "LEADING (2): at the region's beginning, and behind each of its own matches");
        replaced("aabaa", LEADING, "a", "x", "xxbaa", 2);
        replaced("baa", LEADING, "a", "x", "baa", 0);
        replaced("a".repeat(60), LEADING, "a", "x", "x".repeat(60), 60);
        replaced("ababa", LEADING, "ab", "ba", "babaa", 2);
    }
}
