/** The boundary cases of promises 1 to 4, and of what stands ahead of them: a test for each sentence. */
public final class EdgesTextsTest {
    private static final int[] NO_TEXTS = {1, -1, 2, 39, 40, Integer.MIN_VALUE, Integer.MAX_VALUE};

    public static void main(String[] args) {
        calls512();
        promise1NoTexts();
        promise1NoTables();
        promise1CountersAreZero();
        promise1NothingIsCollected();
        promise1NoTwoObjectsShare();
        promise2NumberedFromZero();
        promise2AtMostForty();
        promise2ForgetsNothingWhenFull();
        promise2SmallestSize();
        promise2LargestSize();
        promise2SizeTooSmall();
        promise2SizeTooLarge();
        promise2SizeIsLookedAtFirst();
        promise2BlanksAtFirst();
        promise3SignsFrom0To255();
        promise3NoSuchSign();
        promise3NoSuchPlace();
        promise3NoPlaceInAnEmptyText();
        promise3NoSuchText();
        promise3OneSignAlone();
        promise4FirstAndLastPlace();
        promise4NoSuchPlace();
        promise4NoPlaceInAnEmptyText();
        promise4NoSuchText();
        Expect.end();
    }

    private static void calls512() {
        Expect.sentence(0, "An object is used for at most 512 calls after it has been made");
        TextVerbs verbs = new TextVerbs();
        int one = Expect.text(verbs, "a");
        for (int round = 0; round < 170; round++) {
            Expect.same("phrase of round " + round, verbs.tally(0, 0, 0), 1);
            Expect.same("round " + round, verbs.inspect(one), 0);
            if (round < 169) {
                Expect.same("place of round " + round, verbs.at(one, 0), 'a');
            }
        }
        Expect.same("the 512th call", verbs.counter(0), 170);
    }

    private static void promise1NoTexts() {
        Expect.sentence(1, "No texts");
        TextVerbs verbs = new TextVerbs();
        Expect.badArgument("set", () -> verbs.set(0, 0, 65));
        Expect.badArgument("at", () -> verbs.at(0, 0));
        Expect.badArgument("span", () -> verbs.span(true, 0));
        Expect.badArgument("tally", () -> verbs.tally(1, 0, 0));
        Expect.badArgument("replace", () -> verbs.replace(1, 0, 0));
        Expect.badArgument("replace of CHARACTERS", () -> verbs.replace(0, 0, 0));
        Expect.badArgument("inspect", () -> verbs.inspect(0));
        Expect.badArgument("convert", () -> verbs.convert(0, 0, 0));
        Expect.badArgument("part", () -> verbs.part(0, -1));
        Expect.badArgument("join", () -> verbs.join(0, 1));
        Expect.badArgument("delimiter", () -> verbs.delimiter(0, true));
        Expect.badArgument("receiver", () -> verbs.receiver(0));
        Expect.badArgument("split", () -> verbs.split(0, 1));
        Expect.same("CHARACTERS need no text", verbs.tally(0, 0, 0), 1);
        Expect.same("behind all those the first text", verbs.text(1), 0);
        Expect.same("a part then", verbs.part(0, 0), 1);
        Expect.same("a delimiter then", verbs.delimiter(0, false), 1);
        Expect.same("a receiver then", verbs.receiver(0), 1);
        Expect.same("the pointer", verbs.pointer(), 0);
    }

    private static void promise1NoTables() {
        Expect.sentence(1, "no tables");
        TextVerbs verbs = new TextVerbs();
        Expect.badArgument("row", () -> verbs.row(0, 1, 5));
        Expect.badArgument("index", () -> verbs.index(0, 1));
        Expect.badArgument("serial search", () -> verbs.search(0, false, 0));
        Expect.badArgument("binary search", () -> verbs.search(0, true, 0));
        Expect.badArgument("sort", () -> verbs.sort(0, false));
        Expect.same("behind all those the first table", verbs.table(1), 0);
        Expect.same("its key", verbs.row(0, 1, 5), 0);
        Expect.same("its index", verbs.index(0, 1), 1);
    }

    private static void promise1CountersAreZero() {
        Expect.sentence(1, "counters are 0");
        TextVerbs verbs = new TextVerbs();
        for (int k = 0; k <= 9; k++) {
            Expect.same("counter " + k, verbs.counter(k), 0);
        }
    }

    private static void promise1NothingIsCollected() {
        Expect.sentence(1, "nothing is collected");
        TextVerbs verbs = new TextVerbs();
        int abc = Expect.text(verbs, "abc");
        Expect.same("no phrase", verbs.inspect(abc), 0);
        Expect.same("no part", verbs.join(abc, 1), 1);
        Expect.same("no receiver", verbs.split(abc, 1), -1);
        Expect.holds("the text", verbs, abc, "abc");
        Expect.same("no delimiter and no receiver: results", verbs.result(0, 0), -1);
        Expect.same("the first phrase", verbs.tally(0, 0, 0), 1);
        verbs.inspect(abc);
        Expect.same("no span", verbs.counter(0), 3);
        Expect.same("the first part", verbs.part(abc, -1), 1);
        Expect.same("the first delimiter", verbs.delimiter(abc, false), 1);
        Expect.same("the first receiver", verbs.receiver(abc), 1);
    }

    private static void promise1NoTwoObjectsShare() {
        Expect.sentence(1, "A new object");
        TextVerbs used = new TextVerbs();
        int a = Expect.text(used, "a");
        used.table(1);
        used.span(true, a);
        used.tally(0, 0, 0);
        used.inspect(a);
        used.tally(0, 0, 0);
        used.inspect(a);
        used.span(true, a);
        used.part(a, -1);
        used.join(a, 1);
        TextVerbs verbs = new TextVerbs();
        Expect.badArgument("no text", () -> verbs.at(0, 0));
        Expect.badArgument("no table", () -> verbs.index(0, 1));
        Expect.same("counter", verbs.counter(0), 0);
        Expect.same("pointer", verbs.pointer(), 0);
        Expect.same("the counter of the other one", used.counter(0), 1);
    }

    private static void promise2NumberedFromZero() {
        Expect.sentence(2, "TEXTS are numbered from 0 on");
        TextVerbs verbs = new TextVerbs();
        Expect.same("the first", verbs.text(2), 0);
        Expect.same("the second", verbs.text(0), 1);
        Expect.same("the third", verbs.text(60), 2);
    }

    private static void promise2AtMostForty() {
        Expect.sentence(2, "IllegalStateException when there are 40");
        TextVerbs verbs = new TextVerbs();
        for (int k = 0; k < 40; k++) {
            Expect.same("text " + k, verbs.text(k % 3), k);
        }
        Expect.badState("the 41st", () -> verbs.text(1));
        Expect.badState("the 41st, empty", () -> verbs.text(0));
        Expect.badState("the 41st, the largest", () -> verbs.text(60));
        Expect.badArgument("there is no text 40", () -> verbs.inspect(40));
        Expect.same("text 39 is there", verbs.inspect(39), 0);
    }

    private static void promise2ForgetsNothingWhenFull() {
        Expect.sentence(2, "at most 40");
        TextVerbs verbs = new TextVerbs();
        for (int k = 0; k < 40; k++) {
            verbs.set(verbs.text(60), 59, 100 + k);
        }
        Expect.badState("the 41st", () -> verbs.text(60));
        for (int k = 0; k < 40; k++) {
            Expect.same("text " + k, verbs.at(k, 59), 100 + k);
        }
    }

    private static void promise2SmallestSize() {
        Expect.sentence(2, "each of a SIZE 0 ..");
        TextVerbs verbs = new TextVerbs();
        Expect.same("text(0)", verbs.text(0), 0);
        Expect.badArgument("it has no place", () -> verbs.at(0, 0));
        Expect.same("text(1)", verbs.text(1), 1);
        Expect.same("it has one place", verbs.at(1, 0), 32);
        Expect.badArgument("and no other", () -> verbs.at(1, 1));
    }

    private static void promise2LargestSize() {
        Expect.sentence(2, "each of a SIZE .. 60");
        TextVerbs verbs = new TextVerbs();
        Expect.same("text(60)", verbs.text(60), 0);
        verbs.set(0, 59, 'z');
        Expect.same("it has sixty places", verbs.at(0, 59), 'z');
        Expect.badArgument("and no other", () -> verbs.at(0, 60));
        Expect.same("text(59)", verbs.text(59), 1);
        Expect.badArgument("it has no sixtieth place", () -> verbs.at(1, 59));
    }

    private static void promise2SizeTooSmall() {
        Expect.sentence(2, "IllegalArgumentException when size is not so: less than 0");
        TextVerbs verbs = new TextVerbs();
        Expect.badArgument("text(-1)", () -> verbs.text(-1));
        Expect.badArgument("the least", () -> verbs.text(Integer.MIN_VALUE));
        Expect.badArgument("no text was made", () -> verbs.inspect(0));
        Expect.same("the next number", verbs.text(1), 0);
    }

    private static void promise2SizeTooLarge() {
        Expect.sentence(2, "IllegalArgumentException when size is not so: more than 60");
        TextVerbs verbs = new TextVerbs();
        Expect.badArgument("text(61)", () -> verbs.text(61));
        Expect.badArgument("the greatest", () -> verbs.text(Integer.MAX_VALUE));
        Expect.badArgument("no text was made", () -> verbs.inspect(0));
        Expect.same("the next number", verbs.text(1), 0);
    }

    private static void promise2SizeIsLookedAtFirst() {
        Expect.sentence(2, "IllegalArgumentException when size is not so, else IllegalStateException");
        TextVerbs verbs = new TextVerbs();
        for (int k = 0; k < 40; k++) {
            verbs.text(1);
        }
        Expect.badArgument("too small, and there are 40", () -> verbs.text(-1));
        Expect.badArgument("too large, and there are 40", () -> verbs.text(61));
        Expect.badState("only that there are 40", () -> verbs.text(60));
        Expect.same("the last text", verbs.at(39, 0), 32);
    }

    private static void promise2BlanksAtFirst() {
        Expect.sentence(2, "blanks (32) at first");
        TextVerbs verbs = new TextVerbs();
        verbs.set(verbs.text(60), 0, 'a');
        int full = verbs.text(60);
        for (int i = 0; i < 60; i++) {
            Expect.same("place " + i, verbs.at(full, i), 32);
        }
    }

    private static void promise3SignsFrom0To255() {
        Expect.sentence(3, "signs 0 .. 255");
        TextVerbs verbs = new TextVerbs();
        int text = verbs.text(1);
        for (int c : new int[] {0, 1, 127, 128, 254, 255}) {
            verbs.set(text, 0, c);
            Expect.same("sign " + c, verbs.at(text, 0), c);
        }
    }

    private static void promise3NoSuchSign() {
        Expect.sentence(3, "IllegalArgumentException when there is no such sign");
        TextVerbs verbs = new TextVerbs();
        int text = Expect.text(verbs, "abc");
        for (int c : new int[] {-1, 256, 256 + 65, Integer.MIN_VALUE, Integer.MAX_VALUE}) {
            Expect.badArgument("sign " + c, () -> verbs.set(text, 1, c));
            Expect.holds("behind sign " + c, verbs, text, "abc");
        }
        verbs.set(text, 1, 'x');
        Expect.holds("a right call behind it", verbs, text, "axc");
    }

    private static void promise3NoSuchPlace() {
        Expect.sentence(3, "IllegalArgumentException when there is no such place");
        TextVerbs verbs = new TextVerbs();
        int text = Expect.text(verbs, "abc");
        int other = Expect.text(verbs, "def");
        for (int i : new int[] {-1, 3, 4, 59, 60, Integer.MIN_VALUE, Integer.MAX_VALUE}) {
            Expect.badArgument("place " + i, () -> verbs.set(text, i, 'x'));
            Expect.holds("behind place " + i, verbs, text, "abc");
            Expect.holds("the other text behind place " + i, verbs, other, "def");
        }
        int full = verbs.text(60);
        Expect.badArgument("place 60 of sixty", () -> verbs.set(full, 60, 'x'));
        verbs.set(full, 59, 'x');
        Expect.same("place 59 of sixty", verbs.at(full, 59), 'x');
    }

    private static void promise3NoPlaceInAnEmptyText() {
        Expect.sentence(3, "IllegalArgumentException when there is no such place: an empty text");
        TextVerbs verbs = new TextVerbs();
        int empty = verbs.text(0);
        int next = Expect.text(verbs, "a");
        Expect.badArgument("place 0", () -> verbs.set(empty, 0, 'x'));
        Expect.badArgument("place -1", () -> verbs.set(empty, -1, 'x'));
        Expect.holds("the next text", verbs, next, "a");
    }

    private static void promise3NoSuchText() {
        Expect.sentence(3, "IllegalArgumentException when there is no such text");
        TextVerbs verbs = new TextVerbs();
        int text = Expect.text(verbs, "a");
        for (int number : NO_TEXTS) {
            Expect.badArgument("text " + number, () -> verbs.set(number, 0, 'x'));
            Expect.holds("behind text " + number, verbs, text, "a");
        }
        Expect.same("the next text", verbs.text(1), 1);
        verbs.set(1, 0, 'y');
        Expect.same("now it is there", verbs.at(1, 0), 'y');
    }

    private static void promise3OneSignAlone() {
        Expect.sentence(3, "A sign of a text becomes c");
        TextVerbs verbs = new TextVerbs();
        int ahead = Expect.text(verbs, "aaa");
        int text = Expect.text(verbs, "bbb");
        int behind = Expect.text(verbs, "ccc");
        verbs.set(text, 0, 'x');
        Expect.holds("the first place", verbs, text, "xbb");
        verbs.set(text, 2, 'z');
        Expect.holds("the last place", verbs, text, "xbz");
        Expect.holds("the text ahead", verbs, ahead, "aaa");
        Expect.holds("the text behind", verbs, behind, "ccc");
    }

    private static void promise4FirstAndLastPlace() {
        Expect.sentence(4, "signs 0 .. 255 at places 0, 1, ..");
        TextVerbs verbs = new TextVerbs();
        int text = Expect.text(verbs, "xyz");
        Expect.same("the first place", verbs.at(text, 0), 'x');
        Expect.same("the last place", verbs.at(text, 2), 'z');
        Expect.same("looking changes nothing", verbs.at(text, 0), 'x');
    }

    private static void promise4NoSuchPlace() {
        Expect.sentence(4, "Throws as set: no such place");
        TextVerbs verbs = new TextVerbs();
        int text = Expect.text(verbs, "abc");
        for (int i : new int[] {-1, 3, 4, 59, 60, Integer.MIN_VALUE, Integer.MAX_VALUE}) {
            Expect.badArgument("place " + i, () -> verbs.at(text, i));
            Expect.same("behind place " + i, verbs.at(text, 2), 'c');
        }
    }

    private static void promise4NoPlaceInAnEmptyText() {
        Expect.sentence(4, "Throws as set: no such place, an empty text");
        TextVerbs verbs = new TextVerbs();
        int empty = verbs.text(0);
        Expect.badArgument("place 0", () -> verbs.at(empty, 0));
        Expect.badArgument("place -1", () -> verbs.at(empty, -1));
        Expect.same("the next text", verbs.text(1), 1);
    }

    private static void promise4NoSuchText() {
        Expect.sentence(4, "Throws as set: no such text");
        TextVerbs verbs = new TextVerbs();
        int text = Expect.text(verbs, "a");
        for (int number : NO_TEXTS) {
            Expect.badArgument("text " + number, () -> verbs.at(number, 0));
            Expect.same("behind text " + number, verbs.at(text, 0), 'a');
        }
    }
}
