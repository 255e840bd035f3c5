/** The boundary cases of promises 11, 12 and 17, parts, joining, the pointer: a test for each sentence. */
public final class EdgesStringTest {
    private static final int NONE = TextVerbs.NONE;
    private static final int LEAST = Integer.MIN_VALUE;
    private static final int GREATEST = Integer.MAX_VALUE;

    public static void main(String[] args) {
        promise11AllOfIt();
        promise11UpToTheFirstOccurrence();
        promise11NothingAheadOfIt();
        promise11WithoutAnyOccurrence();
        promise11EmptyText();
        promise11HowManyThereAre();
        promise11NoSuchText();
        promise11NoSuchDelimiter();
        promise11EmptyDelimiter();
        promise11AtMostTwenty();
        promise11ArgumentsAreLookedAtFirst();
        promise12FirstPlaceIsOne();
        promise12LastPlace();
        promise12PointerTooSmall();
        promise12PointerTooLarge();
        promise12EmptyTextHasNoPlace();
        promise12NoPlaceWithoutParts();
        promise12WithoutParts();
        promise12FitsJust();
        promise12SignAndNoPlace();
        promise12NothingBehindAFullText();
        promise12PartBehindAnOverflow();
        promise12PartsGo();
        promise12PartsGoWithAnOverflow();
        promise12OtherPlacesStay();
        promise12NoSuchText();
        promise12RefusedKeepsAll();
        promise12SignsAsTheyAreThen();
        promise12TextsAsTheyAreAtJoin();
        promise17ZeroAheadOfAll();
        promise17BehindAJoining();
        promise17BehindAnOverflow();
        promise17FromNoPlace();
        promise17BehindASplitting();
        promise17OtherCallsLeaveIt();
        promise17RefusedCallsLeaveIt();
        Expect.end();
    }

    /** What one part puts into a text of eight dots; an empty limit tells NONE. */
    private static void put(String source, String limit, String due) {
        TextVerbs verbs = new TextVerbs();
        int into = Expect.text(verbs, "........");
        int from = Expect.text(verbs, source);
        verbs.part(from, limit.isEmpty() ? NONE : Expect.text(verbs, limit));
        String what = "\"" + source + "\" up to \"" + limit + "\"";
        Expect.same(what, verbs.join(into, 1), due.length() + 1);
        Expect.holds(what, verbs, into, (due + "........").substring(0, 8));
        Expect.holds(what + ", the source", verbs, from, source);
    }

    private static void promise11AllOfIt() {
        Expect.sentence(11, "NONE: all of it");
        put("a,b", "", "a,b");
        put("a", "", "a");
        put("   ", "", "   ");
        put("a b ", "", "a b ");
    }

    private static void promise11UpToTheFirstOccurrence() {
        Expect.sentence(11, "a text up to the first occurrence of delimiter");
        put("a,b,c", ",", "a");
        put("ab,", ",", "ab");
        put("a,b,;c", ",;", "a,b");
        put("aaab", "ab", "aa");
        put("baaa", "aa", "b");
    }

    private static void promise11NothingAheadOfIt() {
        Expect.sentence(11, "a text up to the first occurrence of delimiter: at its very beginning");
        put(",ab", ",", "");
        put(",", ",", "");
        put("ab", "ab", "");
    }

    private static void promise11WithoutAnyOccurrence() {
        Expect.sentence(11, "a text up to the first occurrence of another one in it, or all of it");
        put("abc", ",", "abc");
        put("ab", "abc", "ab");
        put("abca", "ab,", "abca");
    }

    private static void promise11EmptyText() {
        Expect.sentence(11, "A part: a text, an empty one");
        put("", "", "");
        put("", ",", "");
    }

    private static void promise11HowManyThereAre() {
        Expect.sentence(11, "how many there are");
        TextVerbs verbs = new TextVerbs();
        int a = Expect.text(verbs, "a");
        Expect.same("the first", verbs.part(a, NONE), 1);
        Expect.same("the same once more", verbs.part(a, NONE), 2);
        Expect.same("with a delimiter", verbs.part(a, a), 3);
        verbs.join(a, 1);
        Expect.same("the first again", verbs.part(a, NONE), 1);
    }

    private static void promise11NoSuchText() {
        Expect.sentence(11, "IllegalArgumentException when there is no such text");
        TextVerbs verbs = new TextVerbs();
        int a = Expect.text(verbs, "a");
        for (int from : new int[] {-1, 1, 39, 40, LEAST, GREATEST}) {
            Expect.badArgument("text " + from, () -> verbs.part(from, NONE));
            Expect.badArgument("text " + from + " up to a", () -> verbs.part(from, a));
        }
        Expect.same("no part was collected", verbs.part(a, NONE), 1);
    }

    private static void promise11NoSuchDelimiter() {
        Expect.sentence(11, "IllegalArgumentException when there is no such text: the delimiter");
        TextVerbs verbs = new TextVerbs();
        int a = Expect.text(verbs, "a");
        for (int delimiter : new int[] {-2, 1, 39, 40, LEAST, GREATEST}) {
            Expect.badArgument("delimiter " + delimiter, () -> verbs.part(a, delimiter));
        }
        Expect.same("no part was collected", verbs.part(a, NONE), 1);
    }

    private static void promise11EmptyDelimiter() {
        Expect.sentence(11, "IllegalArgumentException when the delimiter is empty");
        TextVerbs verbs = new TextVerbs();
        int a = Expect.text(verbs, "a");
        int empty = verbs.text(0);
        Expect.badArgument("of a text", () -> verbs.part(a, empty));
        Expect.badArgument("of an empty text", () -> verbs.part(empty, empty));
        Expect.same("no part was collected", verbs.part(a, NONE), 1);
    }

    private static void promise11AtMostTwenty() {
        Expect.sentence(11, "IllegalStateException when there are 20");
        TextVerbs verbs = new TextVerbs();
        int into = verbs.text(60);
        int a = Expect.text(verbs, "a");
        int b = Expect.text(verbs, "b");
        for (int k = 1; k < 20; k++) {
            Expect.same("part " + k, verbs.part(a, NONE), k);
        }
        Expect.same("the 20th", verbs.part(b, NONE), 20);
        Expect.badState("the 21st", () -> verbs.part(a, NONE));
        Expect.badState("the 21st, with a delimiter", () -> verbs.part(a, b));
        Expect.same("the 20 are joined", verbs.join(into, 1), 21);
        Expect.holds("the 20 are joined", verbs, into, "a".repeat(19) + "b" + " ".repeat(40));
        Expect.same("there is room again", verbs.part(a, NONE), 1);
    }

    private static void promise11ArgumentsAreLookedAtFirst() {
        Expect.sentence(11, "IllegalArgumentException when ..; else IllegalStateException when there are 20");
        TextVerbs verbs = new TextVerbs();
        int a = Expect.text(verbs, "a");
        int empty = verbs.text(0);
        for (int k = 0; k < 20; k++) {
            verbs.part(empty, NONE);
        }
        Expect.badArgument("no text", () -> verbs.part(2, NONE));
        Expect.badArgument("no delimiter", () -> verbs.part(a, 2));
        Expect.badArgument("delimiter -2", () -> verbs.part(a, -2));
        Expect.badArgument("an empty delimiter", () -> verbs.part(a, empty));
        Expect.badState("only that there are 20", () -> verbs.part(a, NONE));
        Expect.same("the parts are as they were", verbs.join(a, 1), 1);
    }

    private static void promise12FirstPlaceIsOne() {
        Expect.sentence(12, "from a POINTER on (1 is the first place)");
        TextVerbs verbs = new TextVerbs();
        int into = Expect.text(verbs, "...");
        int a = Expect.text(verbs, "a");
        verbs.part(a, NONE);
        Expect.same("from 1", verbs.join(into, 1), 2);
        Expect.holds("from 1", verbs, into, "a..");
        verbs.part(a, NONE);
        Expect.same("from 2", verbs.join(into, 2), 3);
        Expect.holds("from 2", verbs, into, "aa.");
    }

    private static void promise12LastPlace() {
        Expect.sentence(12, "from a POINTER on: the last place");
        TextVerbs verbs = new TextVerbs();
        int into = Expect.text(verbs, "...");
        int a = Expect.text(verbs, "a");
        int full = verbs.text(60);
        verbs.part(a, NONE);
        Expect.same("of three", verbs.join(into, 3), 4);
        Expect.holds("of three", verbs, into, "..a");
        verbs.part(a, NONE);
        Expect.same("of sixty", verbs.join(full, 60), 61);
        Expect.holds("of sixty", verbs, full, " ".repeat(59) + "a");
    }

    /** The text stays, the parts go, and the pointer is the one that was given. */
    private static void fromNoPlace(int size, int start) {
        TextVerbs verbs = new TextVerbs();
        int into = Expect.text(verbs, ".".repeat(size));
        int other = Expect.text(verbs, "..");
        int a = Expect.text(verbs, "a");
        verbs.part(a, NONE);
        Expect.same("from " + start, verbs.join(into, start), NONE);
        Expect.holds("from " + start, verbs, into, ".".repeat(size));
        Expect.same("pointer from " + start, verbs.pointer(), start);
        Expect.same("parts are gone from " + start, verbs.join(other, 1), 1);
        Expect.holds("parts are gone from " + start, verbs, other, "..");
    }

    private static void promise12PointerTooSmall() {
        Expect.sentence(12, "it OVERFLOWS if the pointer is no place at the beginning: too small");
        for (int start : new int[] {0, -1, -2, LEAST}) {
            fromNoPlace(3, start);
        }
    }

    private static void promise12PointerTooLarge() {
        Expect.sentence(12, "it OVERFLOWS if the pointer is no place at the beginning: too large");
        for (int start : new int[] {4, 5, 60, 61, GREATEST}) {
            fromNoPlace(3, start);
        }
        fromNoPlace(60, 61);
    }

    private static void promise12EmptyTextHasNoPlace() {
        Expect.sentence(12, "it OVERFLOWS if the pointer is no place at the beginning: an empty text");
        for (int start : new int[] {-1, 0, 1, 2}) {
            fromNoPlace(0, start);
        }
    }

    private static void promise12NoPlaceWithoutParts() {
        Expect.sentence(12, "it OVERFLOWS if the pointer is no place at the beginning: without any part, too");
        TextVerbs verbs = new TextVerbs();
        int into = Expect.text(verbs, "...");
        int empty = verbs.text(0);
        Expect.same("from 0", verbs.join(into, 0), NONE);
        Expect.same("from 4", verbs.join(into, 4), NONE);
        Expect.same("an empty text", verbs.join(empty, 1), NONE);
        verbs.part(empty, NONE);
        Expect.same("an empty part from 4", verbs.join(into, 4), NONE);
        verbs.part(empty, NONE);
        Expect.same("an empty part into an empty text", verbs.join(empty, 1), NONE);
    }

    private static void promise12WithoutParts() {
        Expect.sentence(12, "the pointer behind them: without any part");
        TextVerbs verbs = new TextVerbs();
        int into = Expect.text(verbs, "...");
        int empty = verbs.text(0);
        Expect.same("from 1", verbs.join(into, 1), 1);
        Expect.same("from 3", verbs.join(into, 3), 3);
        verbs.part(empty, NONE);
        Expect.same("an empty part", verbs.join(into, 3), 3);
        Expect.holds("unchanged", verbs, into, "...");
    }

    private static void promise12FitsJust() {
        Expect.sentence(12, "OVERFLOWS if there is a sign and no place for it: it fits just");
        TextVerbs verbs = new TextVerbs();
        int into = Expect.text(verbs, "....");
        int ab = Expect.text(verbs, "ab");
        verbs.part(ab, NONE);
        verbs.part(ab, NONE);
        Expect.same("from 1", verbs.join(into, 1), 5);
        Expect.holds("from 1", verbs, into, "abab");
        int full = verbs.text(60);
        int many = Expect.text(verbs, "x".repeat(60));
        verbs.part(many, NONE);
        Expect.same("sixty signs", verbs.join(full, 1), 61);
        Expect.holds("sixty signs", verbs, full, "x".repeat(60));
    }

    private static void promise12SignAndNoPlace() {
        Expect.sentence(12, "NONE when it overflows (what had a place is there)");
        TextVerbs verbs = new TextVerbs();
        int into = Expect.text(verbs, "...");
        int ab = Expect.text(verbs, "ab");
        verbs.part(ab, NONE);
        verbs.part(ab, NONE);
        Expect.same("one sign too many", verbs.join(into, 1), NONE);
        Expect.holds("what had a place", verbs, into, "aba");
        int full = verbs.text(60);
        int many = Expect.text(verbs, "x".repeat(60));
        verbs.part(many, NONE);
        Expect.same("sixty signs from 2", verbs.join(full, 2), NONE);
        Expect.holds("sixty signs from 2", verbs, full, " " + "x".repeat(59));
    }

    private static void promise12NothingBehindAFullText() {
        Expect.sentence(12, "OVERFLOWS if there is a sign and no place for it: no sign is left");
        TextVerbs verbs = new TextVerbs();
        int into = Expect.text(verbs, "..");
        int ab = Expect.text(verbs, "ab");
        int empty = verbs.text(0);
        verbs.part(ab, NONE);
        verbs.part(empty, NONE);
        verbs.part(ab, ab);
        Expect.same("parts without a sign behind a full text", verbs.join(into, 1), 3);
        Expect.holds("parts without a sign behind a full text", verbs, into, "ab");
    }

    private static void promise12PartBehindAnOverflow() {
        Expect.sentence(12, "one after the other: none behind the overflow");
        TextVerbs verbs = new TextVerbs();
        int into = Expect.text(verbs, "..");
        int abc = Expect.text(verbs, "abc");
        int x = Expect.text(verbs, "x");
        int empty = verbs.text(0);
        verbs.part(abc, NONE);
        verbs.part(x, NONE);
        verbs.part(empty, NONE);
        Expect.same("it overflows", verbs.join(into, 1), NONE);
        Expect.holds("the first part's signs", verbs, into, "ab");
    }

    private static void promise12PartsGo() {
        Expect.sentence(12, "All parts, which go");
        TextVerbs verbs = new TextVerbs();
        int into = Expect.text(verbs, "...");
        int a = Expect.text(verbs, "a");
        verbs.part(a, NONE);
        Expect.same("the first time", verbs.join(into, 1), 2);
        Expect.same("the second time", verbs.join(into, 2), 2);
        Expect.holds("put once", verbs, into, "a..");
        Expect.same("the next part is the first", verbs.part(a, NONE), 1);
    }

    private static void promise12PartsGoWithAnOverflow() {
        Expect.sentence(12, "All parts, which go: with an overflow, too");
        TextVerbs verbs = new TextVerbs();
        int into = Expect.text(verbs, ".");
        int ab = Expect.text(verbs, "ab");
        verbs.part(ab, NONE);
        verbs.part(ab, NONE);
        Expect.same("it overflows", verbs.join(into, 1), NONE);
        Expect.same("the parts are gone", verbs.join(into, 1), 1);
        Expect.same("the next part is the first", verbs.part(ab, NONE), 1);
        Expect.same("it overflows from no place", verbs.join(into, 0), NONE);
        Expect.same("the part is gone", verbs.part(ab, NONE), 1);
    }

    private static void promise12OtherPlacesStay() {
        Expect.sentence(12, "puts their signs, one after the other, into a text: the other places stay");
        TextVerbs verbs = new TextVerbs();
        int into = Expect.text(verbs, "123456");
        int ab = Expect.text(verbs, "ab");
        verbs.part(ab, NONE);
        Expect.same("in the middle", verbs.join(into, 3), 5);
        Expect.holds("no blanks behind", verbs, into, "12ab56");
    }

    private static void promise12NoSuchText() {
        Expect.sentence(12, "IllegalArgumentException when there is no such text");
        TextVerbs verbs = new TextVerbs();
        int a = Expect.text(verbs, "a");
        for (int into : new int[] {-1, 1, 39, 40, LEAST, GREATEST}) {
            Expect.badArgument("text " + into, () -> verbs.join(into, 1));
            Expect.badArgument("text " + into + " from no place", () -> verbs.join(into, 0));
        }
        Expect.same("a right call behind it", verbs.join(a, 1), 1);
    }

    private static void promise12RefusedKeepsAll() {
        Expect.sentence(12, "All parts, which go: not with a refused joining");
        TextVerbs verbs = new TextVerbs();
        int into = Expect.text(verbs, "...");
        int a = Expect.text(verbs, "a");
        verbs.part(a, NONE);
        verbs.join(into, 2);
        verbs.part(a, NONE);
        verbs.part(a, NONE);
        Expect.badArgument("no text", () -> verbs.join(2, 1));
        Expect.same("the pointer is left", verbs.pointer(), 3);
        Expect.same("the parts are there", verbs.part(a, NONE), 3);
        Expect.same("all three are joined", verbs.join(into, 1), 4);
        Expect.holds("all three are joined", verbs, into, "aaa");
    }

    private static void promise12SignsAsTheyAreThen() {
        Expect.sentence(12, "Parts' texts are as they are when they are put there, sign by sign");
        TextVerbs verbs = new TextVerbs();
        int text = Expect.text(verbs, "abcd");
        verbs.part(text, NONE);
        Expect.same("onto itself from 2", verbs.join(text, 2), NONE);
        Expect.holds("onto itself from 2", verbs, text, "aaaa");
        int same = Expect.text(verbs, "abcd");
        verbs.part(same, NONE);
        Expect.same("onto itself from 1", verbs.join(same, 1), 5);
        Expect.holds("onto itself from 1", verbs, same, "abcd");
        int later = Expect.text(verbs, "abcd");
        int x = Expect.text(verbs, "x");
        verbs.part(x, NONE);
        verbs.part(later, NONE);
        Expect.same("a sign ahead of itself", verbs.join(later, 1), NONE);
        Expect.holds("a sign ahead of itself", verbs, later, "xxxx");
    }

    private static void promise12TextsAsTheyAreAtJoin() {
        Expect.sentence(12, "Parts' texts are as they are when they are put there, not as when collected");
        TextVerbs verbs = new TextVerbs();
        int into = Expect.text(verbs, "....");
        int source = Expect.text(verbs, "ab");
        int limit = Expect.text(verbs, "a");
        verbs.part(source, limit);
        verbs.set(source, 0, 'x');
        verbs.set(limit, 0, 'b');
        Expect.same("both have changed", verbs.join(into, 1), 2);
        Expect.holds("both have changed", verbs, into, "x...");
    }

    private static void promise17ZeroAheadOfAll() {
        Expect.sentence(17, "0 ahead of all");
        TextVerbs verbs = new TextVerbs();
        Expect.same("a new object", verbs.pointer(), 0);
        int a = Expect.text(verbs, "a");
        verbs.part(a, NONE);
        verbs.delimiter(a, true);
        verbs.receiver(a);
        Expect.same("nothing was joined or split", verbs.pointer(), 0);
        Expect.badArgument("a refused joining", () -> verbs.join(1, 1));
        Expect.badArgument("a refused splitting", () -> verbs.split(1, 1));
        Expect.same("yet ahead of all", verbs.pointer(), 0);
    }

    private static void promise17BehindAJoining() {
        Expect.sentence(17, "The pointer behind the latest joining");
        TextVerbs verbs = new TextVerbs();
        int into = Expect.text(verbs, "...");
        int a = Expect.text(verbs, "a");
        verbs.part(a, NONE);
        Expect.same("join", verbs.join(into, 2), 3);
        Expect.same("pointer", verbs.pointer(), 3);
        Expect.same("it stays", verbs.pointer(), 3);
        verbs.join(into, 1);
        Expect.same("the latest one", verbs.pointer(), 1);
    }

    private static void promise17BehindAnOverflow() {
        Expect.sentence(17, "that overflowed, too: behind what was put, or taken");
        TextVerbs verbs = new TextVerbs();
        int into = Expect.text(verbs, "...");
        int abc = Expect.text(verbs, "abc");
        verbs.part(abc, NONE);
        Expect.same("join", verbs.join(into, 2), NONE);
        Expect.same("behind what was put", verbs.pointer(), 4);
        int taker = verbs.text(1);
        verbs.receiver(taker);
        Expect.same("split", verbs.split(abc, 2), NONE);
        Expect.same("behind what was taken", verbs.pointer(), 3);
        Expect.same("split without receivers", verbs.split(abc, 2), NONE);
        Expect.same("nothing was taken", verbs.pointer(), 2);
    }

    private static void promise17FromNoPlace() {
        Expect.sentence(17, "that overflowed, too: nothing was put, or taken");
        TextVerbs verbs = new TextVerbs();
        int abc = Expect.text(verbs, "abc");
        for (int start : new int[] {0, 4, -1, 61, LEAST, GREATEST}) {
            verbs.join(abc, 1);
            verbs.join(abc, start);
            Expect.same("join from " + start, verbs.pointer(), start);
            verbs.join(abc, 1);
            verbs.split(abc, start);
            Expect.same("split from " + start, verbs.pointer(), start);
        }
    }

    private static void promise17BehindASplitting() {
        Expect.sentence(17, "The pointer behind the latest joining or splitting");
        TextVerbs verbs = new TextVerbs();
        int abc = Expect.text(verbs, "abc");
        int taker = verbs.text(3);
        verbs.join(abc, 2);
        verbs.receiver(taker);
        Expect.same("split", verbs.split(abc, 1), 4);
        Expect.same("the splitting was the latest", verbs.pointer(), 4);
        verbs.join(abc, 2);
        Expect.same("the joining was the latest", verbs.pointer(), 2);
    }

    private static void promise17OtherCallsLeaveIt() {
        Expect.sentence(17, "the latest joining or splitting: no other call counts");
        TextVerbs verbs = new TextVerbs();
        int abc = Expect.text(verbs, "abc");
        verbs.join(abc, 3);
        verbs.part(abc, NONE);
        verbs.delimiter(abc, true);
        verbs.receiver(abc);
        verbs.tally(0, 0, 0);
        verbs.inspect(abc);
        verbs.convert(abc, abc, abc);
        verbs.index(verbs.table(9), 7);
        verbs.result(0, 0);
        Expect.same("it stays", verbs.pointer(), 3);
    }

    private static void promise17RefusedCallsLeaveIt() {
        Expect.sentence(17, "the latest joining or splitting: no refused one counts");
        TextVerbs verbs = new TextVerbs();
        int abc = Expect.text(verbs, "abc");
        verbs.join(abc, 3);
        Expect.badArgument("join into no text", () -> verbs.join(1, 2));
        Expect.same("behind a refused joining", verbs.pointer(), 3);
        Expect.badArgument("split of no text", () -> verbs.split(-1, 2));
        Expect.same("behind a refused splitting", verbs.pointer(), 3);
    }
}
