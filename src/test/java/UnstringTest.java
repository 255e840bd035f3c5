/** Promises 13 to 16: delimiter, receiver, split, result. */
public final class UnstringTest {
    public static void main(String[] args) {
        promise13Delimiter();
        promise14Receiver();
        promise15Pieces();
        promise15DelimitersInOrder();
        promise15All();
        promise15BySize();
        promise15Overflow();
        promise15ReceiversThatAreRead();
        promise16Result();
        Expect.end();
    }

    private static void promise13Delimiter() {
        TextVerbs verbs = new TextVerbs();
        int a = Expect.text(verbs, "a");
        int empty = verbs.text(0);
        Expect.badArgument("no text", () -> verbs.delimiter(2, true));
        Expect.badArgument("text -1", () -> verbs.delimiter(-1, false));
        Expect.badArgument("an empty text", () -> verbs.delimiter(empty, true));
        for (int k = 1; k <= 8; k++) {
            Expect.same("delimiter " + k, verbs.delimiter(a, k % 2 == 0), k);
        }
        Expect.badState("9th delimiter", () -> verbs.delimiter(a, true));
        Expect.badArgument("9th delimiter, wrong", () -> verbs.delimiter(empty, true));
        verbs.split(a, 0);
        Expect.same("delimiters are gone", verbs.delimiter(a, true), 1);
        Expect.badArgument("a wrong splitting", () -> verbs.split(9, 1));
        Expect.same("delimiters stay", verbs.delimiter(a, true), 2);
    }

    private static void promise14Receiver() {
        TextVerbs verbs = new TextVerbs();
        int a = Expect.text(verbs, "a");
        int empty = verbs.text(0);
        Expect.badArgument("no text", () -> verbs.receiver(2));
        Expect.badArgument("text -1", () -> verbs.receiver(-1));
        for (int k = 1; k <= 20; k++) {
            Expect.same("receiver " + k, verbs.receiver(k % 2 == 0 ? a : empty), k);
        }
        Expect.badState("21st receiver", () -> verbs.receiver(a));
        Expect.badArgument("21st receiver, wrong", () -> verbs.receiver(2));
        verbs.split(a, 1);
        Expect.same("receivers are gone", verbs.receiver(a), 1);
        Expect.badArgument("a wrong splitting", () -> verbs.split(-1, 1));
        Expect.same("receivers stay", verbs.receiver(a), 2);
    }

    private static void promise15Pieces() {
        TextVerbs verbs = new TextVerbs();
        int from = Expect.text(verbs, "ab,cdef,,g,");
        int comma = Expect.text(verbs, ",");
        int[] receivers = new int[5];
        verbs.delimiter(comma, false);
        for (int k = 0; k < 5; k++) {
            receivers[k] = Expect.text(verbs, "xyz");
            verbs.receiver(receivers[k]);
        }
        Expect.same("all is taken", verbs.split(from, 1), 12);
        Expect.holds("blanks behind", verbs, receivers[0], "ab ");
        Expect.holds("cut", verbs, receivers[1], "cde");
        Expect.holds("blanks alone", verbs, receivers[2], "   ");
        Expect.holds("the last piece", verbs, receivers[3], "g  ");
        Expect.holds("the text was over", verbs, receivers[4], "xyz");
        Expect.same("pointer", verbs.pointer(), 12);
        Expect.holds("the source stays", verbs, from, "ab,cdef,,g,");
        verbs.delimiter(comma, false);
        verbs.receiver(receivers[0]);
        verbs.receiver(receivers[1]);
        Expect.same("from within", verbs.split(from, 10), 12);
        Expect.holds("from within", verbs, receivers[0], "g  ");
        Expect.holds("nothing behind a last delimiter", verbs, receivers[1], "cde");
    }

    private static void promise15DelimitersInOrder() {
        TextVerbs verbs = new TextVerbs();
        int from = Expect.text(verbs, "a;,b,c");
        int comma = Expect.text(verbs, ",");
        int both = Expect.text(verbs, ";,");
        int semicolon = Expect.text(verbs, ";");
        int one = verbs.text(2);
        int two = verbs.text(2);
        int three = verbs.text(2);
        verbs.delimiter(comma, false);
        verbs.delimiter(both, false);
        verbs.delimiter(semicolon, false);
        verbs.receiver(one);
        verbs.receiver(two);
        verbs.receiver(three);
        Expect.same("split", verbs.split(from, 1), 7);
        Expect.same("the nearest place goes ahead", verbs.result(0, 1), 1);
        Expect.same("the next one", verbs.result(1, 1), 0);
        Expect.same("none behind the last", verbs.result(2, 1), -1);
        verbs.delimiter(semicolon, false);
        verbs.delimiter(both, false);
        verbs.receiver(one);
        verbs.receiver(two);
        Expect.same("split", verbs.split(from, 1), 7);
        Expect.same("the first in order goes ahead", verbs.result(0, 1), 0);
        Expect.holds("what is left", verbs, two, ",b");
        Expect.same("all that is left", verbs.result(1, 0), 4);
    }

    private static void promise15All() {
        TextVerbs verbs = new TextVerbs();
        int from = Expect.text(verbs, "aababab,ab");
        int ab = Expect.text(verbs, "ab");
        int comma = Expect.text(verbs, ",");
        int one = verbs.text(3);
        int two = verbs.text(3);
        verbs.delimiter(ab, true);
        verbs.delimiter(comma, false);
        verbs.receiver(one);
        verbs.receiver(two);
        Expect.same("split", verbs.split(from, 1), -1);
        Expect.holds("ahead of all of them", verbs, one, "a  ");
        Expect.holds("behind all of them", verbs, two, "   ");
        Expect.same("how many signs", verbs.result(1, 0), 0);
        Expect.same("another delimiter ends it", verbs.result(1, 1), 1);
        Expect.same("pointer", verbs.pointer(), 9);
        verbs.delimiter(ab, true);
        verbs.receiver(one);
        Expect.same("to the end", verbs.split(from, 9), 11);
    }

    private static void promise15BySize() {
        TextVerbs verbs = new TextVerbs();
        int from = Expect.text(verbs, "abcdefg");
        int none = verbs.text(0);
        int two = Expect.text(verbs, "..");
        int three = Expect.text(verbs, "...");
        verbs.receiver(two);
        verbs.receiver(none);
        verbs.receiver(three);
        Expect.same("something is left", verbs.split(from, 1), -1);
        Expect.same("pointer", verbs.pointer(), 6);
        Expect.holds("its size", verbs, two, "ab");
        Expect.holds("its size", verbs, three, "cde");
        Expect.same("an empty receiver", verbs.result(1, 0), 0);
        verbs.receiver(three);
        verbs.receiver(two);
        Expect.same("all that are left", verbs.split(from, 6), 8);
        Expect.holds("all that are left", verbs, three, "fg ");
        Expect.holds("not reached", verbs, two, "ab");
        Expect.same("how many signs", verbs.result(0, 0), 2);
        Expect.same("no delimiter", verbs.result(0, 1), -1);
        Expect.same("not reached", verbs.result(1, 0), -1);
    }

    private static void promise15Overflow() {
        TextVerbs verbs = new TextVerbs();
        int from = Expect.text(verbs, "a,b");
        int comma = Expect.text(verbs, ",");
        int empty = verbs.text(0);
        int taker = Expect.text(verbs, "xx");
        for (int start : new int[] {0, 4, -1, Integer.MIN_VALUE, Integer.MAX_VALUE}) {
            verbs.delimiter(comma, false);
            verbs.receiver(taker);
            Expect.same("split from " + start, verbs.split(from, start), -1);
            Expect.same("pointer from " + start, verbs.pointer(), start);
            Expect.same("receivers are gone", verbs.split(from, 3), -1);
        }
        verbs.receiver(taker);
        Expect.same("an empty text has no place", verbs.split(empty, 1), -1);
        Expect.holds("nothing was moved", verbs, taker, "xx");
        verbs.delimiter(comma, false);
        Expect.same("without receivers", verbs.split(from, 2), -1);
        Expect.same("without receivers", verbs.pointer(), 2);
        verbs.delimiter(comma, false);
        verbs.receiver(taker);
        Expect.same("one receiver", verbs.split(from, 1), -1);
        Expect.same("one receiver", verbs.pointer(), 3);
        Expect.holds("one receiver", verbs, taker, "a ");
        verbs.delimiter(comma, false);
        verbs.receiver(taker);
        Expect.same("from the last place", verbs.split(from, 3), 4);
        Expect.holds("from the last place", verbs, taker, "b ");
        Expect.badArgument("no text", () -> verbs.split(4, 1));
        Expect.badArgument("text -1", () -> verbs.split(-1, 1));
        Expect.same("results stay", verbs.result(0, 0), 1);
    }

    private static void promise15ReceiversThatAreRead() {
        TextVerbs verbs = new TextVerbs();
        int from = Expect.text(verbs, "ab,c,d");
        int comma = Expect.text(verbs, ",");
        int last = verbs.text(1);
        verbs.delimiter(comma, false);
        verbs.receiver(from);
        verbs.receiver(comma);
        verbs.receiver(last);
        Expect.same("split", verbs.split(from, 1), 7);
        Expect.holds("the source is a receiver", verbs, from, "ab    ");
        Expect.holds("the delimiter is a receiver", verbs, comma, "c");
        Expect.holds("both were read as they were", verbs, last, "d");
        verbs.receiver(last);
        verbs.receiver(last);
        verbs.split(from, 1);
        Expect.holds("a receiver twice: the latest stays", verbs, last, "b");
    }

    private static void promise16Result() {
        TextVerbs verbs = new TextVerbs();
        int from = Expect.text(verbs, "abc;d,");
        int comma = Expect.text(verbs, ",");
        int semicolon = Expect.text(verbs, ";");
        int taker = verbs.text(2);
        verbs.delimiter(comma, false);
        verbs.delimiter(semicolon, false);
        verbs.receiver(taker);
        verbs.receiver(taker);
        verbs.receiver(taker);
        Expect.same("collecting leaves it", verbs.result(0, 0), -1);
        verbs.split(from, 1);
        Expect.same("signs that lay there, not cut", verbs.result(0, 0), 3);
        Expect.same("its delimiter", verbs.result(0, 1), 1);
        Expect.same("signs of the second", verbs.result(1, 0), 1);
        Expect.same("its delimiter", verbs.result(1, 1), 0);
        Expect.same("it got nothing", verbs.result(2, 0), -1);
        Expect.same("it got nothing", verbs.result(2, 1), -1);
        Expect.same("receiver -1", verbs.result(-1, 0), -1);
        Expect.same("receiver 3", verbs.result(3, 0), -1);
        Expect.same("receiver 20", verbs.result(20, 0), -1);
        Expect.same("the greatest", verbs.result(Integer.MAX_VALUE, 1), -1);
        Expect.same("the least", verbs.result(Integer.MIN_VALUE, 1), -1);
        Expect.same("what = 2", verbs.result(0, 2), -1);
        Expect.same("what = -1", verbs.result(0, -1), -1);
        verbs.receiver(taker);
        verbs.split(from, 5);
        Expect.same("of the latest splitting", verbs.result(0, 0), 2);
        Expect.same("the earlier one is gone", verbs.result(1, 0), -1);
        verbs.receiver(taker);
        verbs.split(from, 0);
        Expect.same("from no place nothing is got", verbs.result(0, 0), -1);
    }
}
