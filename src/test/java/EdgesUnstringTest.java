/** The boundary cases of promises 13 to 16, delimiters, receivers, splitting, results: a test for each sentence. */
public final class EdgesUnstringTest {
    private static final int NONE = TextVerbs.NONE;
    private static final int LEAST = Integer.MIN_VALUE;
    private static final int GREATEST = Integer.MAX_VALUE;

    public static void main(String[] args) {
        promise13HowManyThereAre();
        promise13NoSuchText();
        promise13EmptyText();
        promise13AtMostEight();
        promise13ArgumentsAreLookedAtFirst();
        promise14HowManyThereAre();
        promise14EmptyText();
        promise14NoSuchText();
        promise14AtMostTwenty();
        promise14ArgumentsAreLookedAtFirst();
        promise15FirstPlaceIsOne();
        promise15LastPlace();
        promise15PointerTooSmall();
        promise15PointerTooLarge();
        promise15EmptyTextHasNoPlace();
        promise15SomethingIsLeft();
        promise15NothingIsLeft();
        promise15WithoutReceivers();
        promise15AsLongAsTheTextIsNotOver();
        promise15DelimiterAtTheVeryEnd();
        promise15DelimiterAtTheVeryBeginning();
        promise15TwoDelimitersAtOnce();
        promise15FirstPlaceCounts();
        promise15FirstInOrderCounts();
        promise15OnlyWholeDelimiters();
        promise15DelimiterAheadOfThePointer();
        promise15BlanksBehind();
        promise15Cut();
        promise15EmptyReceiver();
        promise15All();
        promise15AllToTheEnd();
        promise15AllIsForOneDelimiter();
        promise15NotAll();
        promise15WithoutAnyDelimiterAhead();
        promise15BySize();
        promise15BySizeAllThatAreLeft();
        promise15BySizeEmptyReceivers();
        promise15DelimitersAndReceiversGo();
        promise15TheyGoWithAnOverflow();
        promise15NoSuchText();
        promise15RefusedKeepsAll();
        promise15ReadAsAtTheBeginning();
        promise15DelimitersAsAtTheBeginning();
        promise15DelimitersAsAtSplit();
        promise16HowManySigns();
        promise16WhichDelimiter();
        promise16GotNothing();
        promise16Others();
        promise16AheadOfAll();
        promise16LatestSplitting();
        promise16FromNoPlace();
        promise16TwentyReceivers();
        promise16CollectingLeavesThem();
        Expect.end();
    }

    private static void promise13HowManyThereAre() {
        Expect.sentence(13, "A delimiter: how many there are");
        TextVerbs verbs = new TextVerbs();
        int a = Expect.text(verbs, "a");
        Expect.same("the first", verbs.delimiter(a, false), 1);
        Expect.same("the same once more", verbs.delimiter(a, true), 2);
        Expect.same("a receiver is none", verbs.receiver(a), 1);
        Expect.same("the third", verbs.delimiter(a, true), 3);
        verbs.split(a, 1);
        Expect.same("the first again", verbs.delimiter(a, true), 1);
    }

    private static void promise13NoSuchText() {
        Expect.sentence(13, "IllegalArgumentException when there is no such text");
        TextVerbs verbs = new TextVerbs();
        int a = Expect.text(verbs, "a");
        for (int text : new int[] {-1, 1, 39, 40, LEAST, GREATEST}) {
            Expect.badArgument("text " + text, () -> verbs.delimiter(text, false));
            Expect.badArgument("ALL, text " + text, () -> verbs.delimiter(text, true));
        }
        Expect.same("none was collected", verbs.delimiter(a, false), 1);
    }

    private static void promise13EmptyText() {
        Expect.sentence(13, "IllegalArgumentException when it is empty");
        TextVerbs verbs = new TextVerbs();
        int empty = verbs.text(0);
        int a = Expect.text(verbs, "a");
        Expect.badArgument("an empty one", () -> verbs.delimiter(empty, false));
        Expect.badArgument("ALL, an empty one", () -> verbs.delimiter(empty, true));
        Expect.same("none was collected", verbs.delimiter(a, false), 1);
    }

    private static void promise13AtMostEight() {
        Expect.sentence(13, "IllegalStateException when there are 8");
        TextVerbs verbs = new TextVerbs();
        int text = Expect.text(verbs, "1b2");
        int a = Expect.text(verbs, "a");
        int b = Expect.text(verbs, "b");
        int one = verbs.text(1);
        int two = verbs.text(1);
        for (int k = 1; k < 8; k++) {
            Expect.same("delimiter " + k, verbs.delimiter(a, true), k);
        }
        Expect.same("the 8th", verbs.delimiter(b, false), 8);
        Expect.badState("the 9th", () -> verbs.delimiter(a, false));
        Expect.badState("the 9th, ALL", () -> verbs.delimiter(b, true));
        verbs.receiver(one);
        verbs.receiver(two);
        Expect.same("split", verbs.split(text, 1), 4);
        Expect.same("the 8th is there", verbs.result(0, 1), 7);
        Expect.holds("ahead of it", verbs, one, "1");
        Expect.holds("behind it", verbs, two, "2");
        Expect.same("there is room again", verbs.delimiter(a, false), 1);
    }

    private static void promise13ArgumentsAreLookedAtFirst() {
        Expect.sentence(13, "IllegalArgumentException when ..; else IllegalStateException when there are 8");
        TextVerbs verbs = new TextVerbs();
        int a = Expect.text(verbs, "a");
        int empty = verbs.text(0);
        for (int k = 0; k < 8; k++) {
            verbs.delimiter(a, false);
        }
        Expect.badArgument("no text", () -> verbs.delimiter(2, true));
        Expect.badArgument("text -1", () -> verbs.delimiter(-1, true));
        Expect.badArgument("an empty text", () -> verbs.delimiter(empty, true));
        Expect.badState("only that there are 8", () -> verbs.delimiter(a, true));
    }

    private static void promise14HowManyThereAre() {
        Expect.sentence(14, "A receiver: how many there are");
        TextVerbs verbs = new TextVerbs();
        int a = Expect.text(verbs, "a");
        Expect.same("the first", verbs.receiver(a), 1);
        Expect.same("the same once more", verbs.receiver(a), 2);
        Expect.same("a delimiter is none", verbs.delimiter(a, true), 1);
        Expect.same("the third", verbs.receiver(a), 3);
        verbs.split(a, 1);
        Expect.same("the first again", verbs.receiver(a), 1);
    }

    private static void promise14EmptyText() {
        Expect.sentence(14, "IllegalArgumentException when there is no such text: an empty one is there");
        TextVerbs verbs = new TextVerbs();
        int empty = verbs.text(0);
        Expect.same("an empty one", verbs.receiver(empty), 1);
    }

    private static void promise14NoSuchText() {
        Expect.sentence(14, "IllegalArgumentException when there is no such text");
        TextVerbs verbs = new TextVerbs();
        int a = Expect.text(verbs, "a");
        for (int text : new int[] {-1, 1, 39, 40, LEAST, GREATEST}) {
            Expect.badArgument("text " + text, () -> verbs.receiver(text));
        }
        Expect.same("none was collected", verbs.receiver(a), 1);
    }

    private static void promise14AtMostTwenty() {
        Expect.sentence(14, "IllegalStateException when there are 20");
        TextVerbs verbs = new TextVerbs();
        int text = Expect.text(verbs, "abcdefghijklmnopqrst");
        int taker = verbs.text(1);
        int last = verbs.text(1);
        for (int k = 1; k < 20; k++) {
            Expect.same("receiver " + k, verbs.receiver(taker), k);
        }
        Expect.same("the 20th", verbs.receiver(last), 20);
        Expect.badState("the 21st", () -> verbs.receiver(taker));
        Expect.badState("the 21st, another", () -> verbs.receiver(text));
        Expect.same("all twenty are served", verbs.split(text, 1), 21);
        Expect.holds("the 19th", verbs, taker, "s");
        Expect.holds("the 20th", verbs, last, "t");
        Expect.same("there is room again", verbs.receiver(taker), 1);
    }

    private static void promise14ArgumentsAreLookedAtFirst() {
        Expect.sentence(14, "IllegalArgumentException when ..; else IllegalStateException when there are 20");
        TextVerbs verbs = new TextVerbs();
        int a = Expect.text(verbs, "a");
        for (int k = 0; k < 20; k++) {
            verbs.receiver(a);
        }
        Expect.badArgument("no text", () -> verbs.receiver(1));
        Expect.badArgument("text -1", () -> verbs.receiver(-1));
        Expect.badState("only that there are 20", () -> verbs.receiver(a));
    }

    /**
     * Splits a text by one-sign delimiters, none with ALL, into a receiver of three dots for each piece that is due;
     * a piece of three dots tells that its receiver gets nothing.
     */
    private static void pieces(String from, String delimiters, int start, int answer, int pointer, String... due) {
        TextVerbs verbs = new TextVerbs();
        String what = "\"" + from + "\" by \"" + delimiters + "\" from " + start;
        int text = Expect.text(verbs, from);
        for (int k = 0; k < delimiters.length(); k++) {
            verbs.delimiter(Expect.text(verbs, delimiters.substring(k, k + 1)), false);
        }
        int[] takers = new int[due.length];
        for (int k = 0; k < due.length; k++) {
            takers[k] = Expect.text(verbs, "...");
            verbs.receiver(takers[k]);
        }
        Expect.same(what, verbs.split(text, start), answer);
        Expect.same(what + ", pointer", verbs.pointer(), pointer);
        for (int k = 0; k < due.length; k++) {
            Expect.holds(what + ", receiver " + k, verbs, takers[k], due[k]);
            Expect.same(what + ", got nothing " + k, verbs.result(k, 0) == NONE ? 1 : 0, due[k].equals("...") ? 1 : 0);
        }
    }

    private static void promise15FirstPlaceIsOne() {
        Expect.sentence(15, "A text is split from a pointer on (1 is the first place)");
        pieces("a,b", ",", 1, 4, 4, "a  ", "b  ");
        pieces("a,b", ",", 2, 4, 4, "   ", "b  ");
        pieces("abc", "", 1, 4, 4, "abc");
        pieces("abc", "", 2, 4, 4, "bc ");
    }

    private static void promise15LastPlace() {
        Expect.sentence(15, "A text is split from a pointer on: the last place");
        pieces("a,b", ",", 3, 4, 4, "b  ", "...");
        pieces("ab,", ",", 3, 4, 4, "   ", "...");
        pieces("abc", "", 3, 4, 4, "c  ", "...");
        pieces("a".repeat(59) + "b", ",", 60, 61, 61, "b  ");
    }

    private static void promise15PointerTooSmall() {
        Expect.sentence(15, "It overflows if the pointer is no place at the beginning: too small");
        for (int start : new int[] {0, -1, -2, LEAST}) {
            pieces("a,b", ",", start, NONE, start, "...", "...");
            pieces("a,b", "", start, NONE, start, "...");
        }
    }

    private static void promise15PointerTooLarge() {
        Expect.sentence(15, "It overflows if the pointer is no place at the beginning: too large");
        for (int start : new int[] {4, 5, 60, 61, GREATEST}) {
            pieces("a,b", ",", start, NONE, start, "...", "...");
            pieces("a,b", "", start, NONE, start, "...");
        }
        pieces("a".repeat(60), ",", 61, NONE, 61, "...");
    }

    private static void promise15EmptyTextHasNoPlace() {
        Expect.sentence(15, "It overflows if the pointer is no place at the beginning: an empty text");
        for (int start : new int[] {-1, 0, 1, 2}) {
            pieces("", ",", start, NONE, start, "...");
            pieces("", "", start, NONE, start);
        }
    }

    private static void promise15SomethingIsLeft() {
        Expect.sentence(15, "It overflows if something is left behind the last receiver");
        pieces("a,b,c", ",", 1, NONE, 5, "a  ", "b  ");
        pieces("a,b", ",", 1, NONE, 3, "a  ");
        pieces("a,,", ",", 1, NONE, 3, "a  ");
        pieces("abcd", "", 1, NONE, 4, "abc");
    }

    private static void promise15NothingIsLeft() {
        Expect.sentence(15, "It overflows if something is left behind the last receiver: nothing is");
        pieces("a,b,c", ",", 1, 6, 6, "a  ", "b  ", "c  ");
        pieces("a,", ",", 1, 3, 3, "a  ");
        pieces("abc", "", 1, 4, 4, "abc");
    }

    private static void promise15WithoutReceivers() {
        Expect.sentence(15, "It overflows if something is left: without any receiver");
        pieces("a,b", ",", 1, NONE, 1);
        pieces("a,b", "", 3, NONE, 3);
    }

    private static void promise15AsLongAsTheTextIsNotOver() {
        Expect.sentence(15, "for each receiver, as long as the text isn't over");
        pieces("a,b", ",", 1, 4, 4, "a  ", "b  ", "...", "...");
        pieces("abcd", "", 1, 5, 5, "abc", "d  ", "...");
        pieces("abc", "", 1, 4, 4, "abc", "...");
    }

    private static void promise15DelimiterAtTheVeryEnd() {
        Expect.sentence(15, "as long as the text isn't over: a delimiter is its end");
        pieces("a,", ",", 1, 3, 3, "a  ", "...");
        pieces(",", ",", 1, 2, 2, "   ", "...");
        pieces("a,,", ",", 1, 4, 4, "a  ", "   ", "...");
    }

    private static void promise15DelimiterAtTheVeryBeginning() {
        Expect.sentence(15, "what lies ahead of the next delimiter: nothing");
        pieces(",a", ",", 1, 3, 3, "   ", "a  ");
        pieces("b,a", ",", 2, 4, 4, "   ", "a  ");
    }

    private static void promise15TwoDelimitersAtOnce() {
        Expect.sentence(15, "what lies ahead of the next delimiter: nothing between two");
        pieces("a,,b", ",", 1, 5, 5, "a  ", "   ", "b  ");
        pieces("a,;b", ",;", 1, 5, 5, "a  ", "   ", "b  ");
    }

    private static void promise15FirstPlaceCounts() {
        Expect.sentence(15, "the next delimiter (the first place at which one occurs)");
        TextVerbs verbs = new TextVerbs();
        int text = Expect.text(verbs, "a;b,c");
        int comma = Expect.text(verbs, ",");
        int semicolon = Expect.text(verbs, ";");
        int one = verbs.text(3);
        verbs.delimiter(comma, false);
        verbs.delimiter(semicolon, false);
        verbs.receiver(one);
        verbs.receiver(one);
        Expect.same("split", verbs.split(text, 1), NONE);
        Expect.same("the second in order stands first", verbs.result(0, 1), 1);
        Expect.same("then the first", verbs.result(1, 1), 0);
        Expect.same("pointer", verbs.pointer(), 5);
    }

    private static void promise15FirstInOrderCounts() {
        Expect.sentence(15, "the next delimiter (.. the first in their order that does)");
        for (int first = 0; first <= 1; first++) {
            TextVerbs verbs = new TextVerbs();
            int text = Expect.text(verbs, "a--b");
            int dash = Expect.text(verbs, "-");
            int dashes = Expect.text(verbs, "--");
            int one = verbs.text(3);
            verbs.delimiter(first == 0 ? dash : dashes, false);
            verbs.delimiter(first == 0 ? dashes : dash, false);
            verbs.receiver(one);
            verbs.split(text, 1);
            Expect.same("which", verbs.result(0, 1), 0);
            Expect.same("behind it", verbs.pointer(), first == 0 ? 3 : 4);
        }
        TextVerbs verbs = new TextVerbs();
        int text = Expect.text(verbs, "a,b");
        int comma = Expect.text(verbs, ",");
        verbs.delimiter(comma, false);
        verbs.delimiter(comma, true);
        verbs.receiver(verbs.text(1));
        verbs.split(text, 1);
        Expect.same("one text twice", verbs.result(0, 1), 0);
    }

    private static void promise15OnlyWholeDelimiters() {
        Expect.sentence(15, "what lies ahead of the next delimiter: all its signs stand there");
        TextVerbs verbs = new TextVerbs();
        int text = Expect.text(verbs, "a-b--c-");
        int dashes = Expect.text(verbs, "--");
        int one = verbs.text(4);
        int two = verbs.text(4);
        verbs.delimiter(dashes, false);
        verbs.receiver(one);
        verbs.receiver(two);
        Expect.same("half a delimiter at the end is none", verbs.split(text, 1), 8);
        Expect.holds("half a delimiter within is none", verbs, one, "a-b ");
        Expect.holds("half a delimiter at the end is none", verbs, two, "c-  ");
        Expect.same("none behind it", verbs.result(1, 1), NONE);
        int longer = Expect.text(verbs, "a-b--c--");
        verbs.delimiter(longer, true);
        verbs.receiver(one);
        Expect.same("a delimiter longer than the text", verbs.split(text, 1), 8);
        verbs.delimiter(text, false);
        verbs.receiver(one);
        Expect.same("a delimiter that is all of the text", verbs.split(text, 1), 8);
        Expect.same("nothing ahead of it", verbs.result(0, 0), 0);
        Expect.same("it is behind", verbs.result(0, 1), 0);
    }

    private static void promise15DelimiterAheadOfThePointer() {
        Expect.sentence(15, "from a pointer on: what lies ahead of it is not looked at");
        pieces("a,bc", ",", 3, 5, 5, "bc ", "...");
        TextVerbs verbs = new TextVerbs();
        int text = Expect.text(verbs, "--a");
        int dashes = Expect.text(verbs, "--");
        int taker = verbs.text(2);
        verbs.delimiter(dashes, true);
        verbs.receiver(taker);
        Expect.same("from within a delimiter", verbs.split(text, 2), 4);
        Expect.holds("from within a delimiter", verbs, taker, "-a");
    }

    private static void promise15BlanksBehind() {
        Expect.sentence(15, "is moved to it, blanks behind");
        pieces("a,b", ",", 1, 4, 4, "a  ", "b  ");
        pieces(",b", ",", 1, 3, 3, "   ", "b  ");
        TextVerbs verbs = new TextVerbs();
        int text = Expect.text(verbs, "a");
        int many = Expect.text(verbs, "x".repeat(60));
        verbs.receiver(many);
        Expect.same("one sign into sixty", verbs.split(text, 1), 2);
        Expect.holds("one sign into sixty", verbs, many, "a" + " ".repeat(59));
    }

    private static void promise15Cut() {
        Expect.sentence(15, "is moved to it, or cut");
        pieces("abc,abcd,", ",", 1, 10, 10, "abc", "abc");
        pieces("abcd", ",", 1, 5, 5, "abc");
        TextVerbs verbs = new TextVerbs();
        int text = Expect.text(verbs, "ab".repeat(30));
        int one = verbs.text(1);
        int comma = Expect.text(verbs, ",");
        verbs.delimiter(comma, false);
        verbs.receiver(one);
        Expect.same("sixty signs into one", verbs.split(text, 1), 61);
        Expect.holds("sixty signs into one", verbs, one, "a");
        Expect.same("sixty lay there", verbs.result(0, 0), 60);
    }

    private static void promise15EmptyReceiver() {
        Expect.sentence(15, "is moved to it, or cut: a receiver without a place");
        TextVerbs verbs = new TextVerbs();
        int text = Expect.text(verbs, "ab,c");
        int comma = Expect.text(verbs, ",");
        int empty = verbs.text(0);
        int one = verbs.text(1);
        verbs.delimiter(comma, false);
        verbs.receiver(empty);
        verbs.receiver(one);
        Expect.same("split", verbs.split(text, 1), 5);
        Expect.same("signs that lay there", verbs.result(0, 0), 2);
        Expect.same("its delimiter", verbs.result(0, 1), 0);
        Expect.holds("the next one", verbs, one, "c");
    }

    private static void promise15All() {
        Expect.sentence(15, "with ALL: behind all its occurrences that follow one another at once");
        TextVerbs verbs = new TextVerbs();
        int text = Expect.text(verbs, "a,,,b,c");
        int comma = Expect.text(verbs, ",");
        int one = verbs.text(2);
        int two = verbs.text(2);
        verbs.delimiter(comma, true);
        verbs.receiver(one);
        verbs.receiver(two);
        Expect.same("split", verbs.split(text, 1), NONE);
        Expect.holds("ahead of them", verbs, one, "a ");
        Expect.holds("behind them", verbs, two, "b ");
        Expect.same("behind a single one", verbs.pointer(), 7);
        int pairs = Expect.text(verbs, "a-----b");
        int dashes = Expect.text(verbs, "--");
        verbs.delimiter(dashes, true);
        verbs.receiver(one);
        verbs.split(pairs, 1);
        Expect.same("an odd one is left", verbs.pointer(), 6);
    }

    private static void promise15AllToTheEnd() {
        Expect.sentence(15, "with ALL: behind all its occurrences, to the end");
        TextVerbs verbs = new TextVerbs();
        int text = Expect.text(verbs, "a,,,");
        int comma = Expect.text(verbs, ",");
        int one = verbs.text(2);
        int two = Expect.text(verbs, "xy");
        verbs.delimiter(comma, true);
        verbs.receiver(one);
        verbs.receiver(two);
        Expect.same("the text is over", verbs.split(text, 1), 5);
        Expect.holds("got nothing", verbs, two, "xy");
        int many = Expect.text(verbs, ",".repeat(60));
        verbs.delimiter(comma, true);
        verbs.receiver(one);
        Expect.same("sixty of them", verbs.split(many, 1), 61);
        Expect.holds("nothing ahead of them", verbs, one, "  ");
        Expect.same("nothing ahead of them", verbs.result(0, 0), 0);
    }

    private static void promise15AllIsForOneDelimiter() {
        Expect.sentence(15, "with ALL: its occurrences, not another's");
        TextVerbs verbs = new TextVerbs();
        int text = Expect.text(verbs, "a,;,b");
        int comma = Expect.text(verbs, ",");
        int semicolon = Expect.text(verbs, ";");
        int taker = verbs.text(2);
        verbs.delimiter(comma, true);
        verbs.delimiter(semicolon, true);
        for (int k = 0; k < 4; k++) {
            verbs.receiver(taker);
        }
        Expect.same("split", verbs.split(text, 1), 6);
        Expect.same("the comma", verbs.result(0, 1), 0);
        Expect.same("the semicolon", verbs.result(1, 1), 1);
        Expect.same("nothing between", verbs.result(1, 0), 0);
        Expect.same("the comma again", verbs.result(2, 1), 0);
        Expect.same("the last piece", verbs.result(3, 0), 1);
    }

    private static void promise15NotAll() {
        Expect.sentence(15, "each with ALL or not");
        TextVerbs verbs = new TextVerbs();
        int text = Expect.text(verbs, "a,,b;;c");
        int comma = Expect.text(verbs, ",");
        int semicolon = Expect.text(verbs, ";");
        int taker = verbs.text(2);
        verbs.delimiter(comma, false);
        verbs.delimiter(semicolon, true);
        for (int k = 0; k < 4; k++) {
            verbs.receiver(taker);
        }
        Expect.same("split", verbs.split(text, 1), 8);
        Expect.same("behind one comma", verbs.result(1, 0), 0);
        Expect.same("behind two semicolons", verbs.result(3, 0), 1);
        verbs.delimiter(comma, true);
        verbs.receiver(taker);
        verbs.split(text, 1);
        verbs.delimiter(comma, false);
        verbs.receiver(taker);
        verbs.split(text, 1);
        Expect.same("ALL is not kept from an earlier splitting", verbs.pointer(), 3);
    }

    private static void promise15WithoutAnyDelimiterAhead() {
        Expect.sentence(15, "Without any delimiter ahead all that is left is moved");
        pieces("abc", ",", 1, 4, 4, "abc");
        pieces("abcde", ",;", 1, 6, 6, "abc", "...");
        pieces("a,bcd", ",", 1, 6, 6, "a  ", "bcd", "...");
    }

    private static void promise15BySize() {
        Expect.sentence(15, "if none was collected, so many signs as the receiver has");
        TextVerbs verbs = new TextVerbs();
        int text = Expect.text(verbs, "a,bcdef");
        int one = verbs.text(1);
        int three = verbs.text(3);
        verbs.receiver(three);
        verbs.receiver(one);
        Expect.same("split", verbs.split(text, 2), NONE);
        Expect.holds("three signs", verbs, three, ",bc");
        Expect.holds("one sign", verbs, one, "d");
        Expect.same("pointer", verbs.pointer(), 6);
        Expect.same("three signs", verbs.result(0, 0), 3);
        Expect.same("no delimiter", verbs.result(0, 1), NONE);
    }

    private static void promise15BySizeAllThatAreLeft() {
        Expect.sentence(15, "so many signs as the receiver has (or all that are left)");
        pieces("abcd", "", 1, 5, 5, "abc", "d  ");
        pieces("ab", "", 1, 3, 3, "ab ");
        pieces("abcdef", "", 1, 7, 7, "abc", "def", "...");
        TextVerbs verbs = new TextVerbs();
        int text = Expect.text(verbs, "ab");
        int many = verbs.text(60);
        verbs.receiver(many);
        verbs.split(text, 1);
        Expect.same("two lay there", verbs.result(0, 0), 2);
    }

    private static void promise15BySizeEmptyReceivers() {
        Expect.sentence(15, "so many signs as the receiver has: none");
        TextVerbs verbs = new TextVerbs();
        int text = Expect.text(verbs, "a");
        int empty = verbs.text(0);
        int one = verbs.text(1);
        verbs.receiver(empty);
        Expect.same("all is left", verbs.split(text, 1), NONE);
        Expect.same("pointer", verbs.pointer(), 1);
        Expect.same("no sign", verbs.result(0, 0), 0);
        verbs.receiver(empty);
        verbs.receiver(one);
        verbs.receiver(empty);
        Expect.same("another takes it", verbs.split(text, 1), 2);
        Expect.holds("another takes it", verbs, one, "a");
        Expect.same("the text was over for the third", verbs.result(2, 0), NONE);
    }

    private static void promise15DelimitersAndReceiversGo() {
        Expect.sentence(15, "delimiters and receivers go");
        TextVerbs verbs = new TextVerbs();
        int text = Expect.text(verbs, "a,b");
        int comma = Expect.text(verbs, ",");
        int one = verbs.text(3);
        verbs.delimiter(comma, false);
        verbs.receiver(one);
        verbs.receiver(one);
        Expect.same("the first time", verbs.split(text, 1), 4);
        Expect.same("no receiver is left", verbs.split(text, 1), NONE);
        verbs.receiver(one);
        Expect.same("no delimiter is left", verbs.split(text, 1), 4);
        Expect.holds("no delimiter is left", verbs, one, "a,b");
    }

    private static void promise15TheyGoWithAnOverflow() {
        Expect.sentence(15, "delimiters and receivers go: with an overflow, too");
        TextVerbs verbs = new TextVerbs();
        int text = Expect.text(verbs, "a,b");
        int comma = Expect.text(verbs, ",");
        int one = verbs.text(3);
        for (int start : new int[] {1, 0, 4}) {
            Expect.same("the first delimiter", verbs.delimiter(comma, false), 1);
            Expect.same("the first receiver", verbs.receiver(one), 1);
            Expect.same("from " + start, verbs.split(text, start), NONE);
        }
        Expect.same("no receiver is left", verbs.receiver(one), 1);
        Expect.same("no delimiter is left", verbs.split(text, 1), 4);
        Expect.holds("no delimiter is left", verbs, one, "a,b");
    }

    private static void promise15NoSuchText() {
        Expect.sentence(15, "IllegalArgumentException when there is no such text");
        TextVerbs verbs = new TextVerbs();
        int a = Expect.text(verbs, "a");
        for (int from : new int[] {-1, 1, 39, 40, LEAST, GREATEST}) {
            Expect.badArgument("text " + from, () -> verbs.split(from, 1));
            Expect.badArgument("text " + from + " from no place", () -> verbs.split(from, 0));
        }
        Expect.same("a right call behind it", verbs.split(a, 1), NONE);
    }

    private static void promise15RefusedKeepsAll() {
        Expect.sentence(15, "delimiters and receivers go: not with a refused splitting");
        TextVerbs verbs = new TextVerbs();
        int text = Expect.text(verbs, "a,b");
        int comma = Expect.text(verbs, ",");
        int one = verbs.text(1);
        int two = verbs.text(1);
        verbs.receiver(one);
        verbs.split(text, 3);
        verbs.delimiter(comma, false);
        verbs.receiver(one);
        Expect.badArgument("no text", () -> verbs.split(4, 1));
        Expect.same("results are left", verbs.result(0, 0), 1);
        Expect.same("the pointer is left", verbs.pointer(), 4);
        Expect.same("the receiver is there", verbs.receiver(two), 2);
        Expect.same("the delimiter is there", verbs.split(text, 1), 4);
        Expect.holds("ahead of it", verbs, one, "a");
        Expect.holds("behind it", verbs, two, "b");
    }

    private static void promise15ReadAsAtTheBeginning() {
        Expect.sentence(15, "It is read as it is at the beginning");
        TextVerbs verbs = new TextVerbs();
        int text = Expect.text(verbs, "ab,c");
        int comma = Expect.text(verbs, ",");
        int other = verbs.text(3);
        verbs.delimiter(comma, false);
        verbs.receiver(text);
        verbs.receiver(other);
        Expect.same("it receives its first piece", verbs.split(text, 1), 5);
        Expect.holds("it receives its first piece", verbs, text, "ab  ");
        Expect.holds("the second piece is there yet", verbs, other, "c  ");
        int digits = Expect.text(verbs, "1234");
        verbs.receiver(other);
        verbs.receiver(digits);
        verbs.receiver(digits);
        Expect.same("by size", verbs.split(digits, 1), 5);
        Expect.holds("by size", verbs, digits, "4   ");
    }

    private static void promise15DelimitersAsAtTheBeginning() {
        Expect.sentence(15, "It is read as it is at the beginning; delimiters likewise");
        TextVerbs verbs = new TextVerbs();
        int text = Expect.text(verbs, "b,a,b,");
        int comma = Expect.text(verbs, ",");
        int other = verbs.text(3);
        verbs.delimiter(comma, false);
        verbs.receiver(comma);
        verbs.receiver(other);
        verbs.receiver(other);
        Expect.same("the delimiter receives the first piece", verbs.split(text, 1), 7);
        Expect.holds("the delimiter receives the first piece", verbs, comma, "b");
        Expect.same("the comma stays the delimiter", verbs.result(1, 0), 1);
        Expect.same("the comma stays the delimiter", verbs.result(2, 0), 1);
    }

    private static void promise15DelimitersAsAtSplit() {
        Expect.sentence(15, "delimiters likewise: not as they were when collected");
        TextVerbs verbs = new TextVerbs();
        int text = Expect.text(verbs, "a,b;c");
        int limit = Expect.text(verbs, ",");
        int taker = verbs.text(3);
        verbs.delimiter(limit, false);
        verbs.receiver(taker);
        verbs.set(limit, 0, ';');
        Expect.same("the semicolon", verbs.split(text, 1), NONE);
        Expect.holds("the semicolon", verbs, taker, "a,b");
    }

    /** "abcd;;e,": four signs cut to two, an empty piece, one sign, and two receivers that get nothing. */
    private static TextVerbs splitOnce() {
        TextVerbs verbs = new TextVerbs();
        int text = Expect.text(verbs, "abcd;;e,");
        int comma = Expect.text(verbs, ",");
        int semicolon = Expect.text(verbs, ";");
        int taker = verbs.text(2);
        verbs.delimiter(comma, false);
        verbs.delimiter(semicolon, false);
        for (int k = 0; k < 5; k++) {
            verbs.receiver(taker);
        }
        verbs.split(text, 1);
        return verbs;
    }

    private static void promise16HowManySigns() {
        Expect.sentence(16, "what = 0 how many signs lay there");
        TextVerbs verbs = splitOnce();
        Expect.same("more than it has places", verbs.result(0, 0), 4);
        Expect.same("none between two delimiters", verbs.result(1, 0), 0);
        Expect.same("less than it has places", verbs.result(2, 0), 1);
        Expect.same("asked again", verbs.result(0, 0), 4);
    }

    private static void promise16WhichDelimiter() {
        Expect.sentence(16, "1 which delimiter (from 0 on; NONE: none) was behind");
        TextVerbs verbs = splitOnce();
        Expect.same("the second in order", verbs.result(0, 1), 1);
        Expect.same("the second again", verbs.result(1, 1), 1);
        Expect.same("the first in order", verbs.result(2, 1), 0);
        int text = Expect.text(verbs, "ab");
        verbs.delimiter(1, false);
        verbs.receiver(text);
        verbs.split(text, 1);
        Expect.same("none was behind", verbs.result(0, 1), NONE);
        Expect.same("but signs lay there", verbs.result(0, 0), 2);
    }

    private static void promise16GotNothing() {
        Expect.sentence(16, "NONE when it got nothing");
        TextVerbs verbs = splitOnce();
        Expect.same("signs of the fourth", verbs.result(3, 0), NONE);
        Expect.same("delimiter of the fourth", verbs.result(3, 1), NONE);
        Expect.same("signs of the fifth", verbs.result(4, 0), NONE);
        Expect.same("delimiter of the fifth", verbs.result(4, 1), NONE);
    }

    private static void promise16Others() {
        Expect.sentence(16, "NONE when it got nothing, or for others");
        TextVerbs verbs = splitOnce();
        for (int i : new int[] {-1, -2, 5, 19, 20, 21, LEAST, GREATEST}) {
            Expect.same("signs of receiver " + i, verbs.result(i, 0), NONE);
            Expect.same("delimiter of receiver " + i, verbs.result(i, 1), NONE);
        }
        for (int what : new int[] {-1, 2, 3, LEAST, GREATEST}) {
            Expect.same("what = " + what, verbs.result(0, what), NONE);
        }
        Expect.same("a right call behind it", verbs.result(0, 0), 4);
    }

    private static void promise16AheadOfAll() {
        Expect.sentence(16, "Of the i-th receiver of the latest splitting: there was none");
        TextVerbs verbs = new TextVerbs();
        for (int i = -1; i <= 20; i++) {
            Expect.same("signs of receiver " + i, verbs.result(i, 0), NONE);
            Expect.same("delimiter of receiver " + i, verbs.result(i, 1), NONE);
        }
    }

    private static void promise16LatestSplitting() {
        Expect.sentence(16, "Of the i-th receiver of the latest splitting");
        TextVerbs verbs = splitOnce();
        int text = Expect.text(verbs, "ab");
        verbs.receiver(text);
        verbs.split(text, 1);
        Expect.same("the latest", verbs.result(0, 0), 2);
        Expect.same("the second receiver of the earlier one", verbs.result(1, 0), NONE);
        Expect.same("its delimiter", verbs.result(1, 1), NONE);
        verbs.split(text, 1);
        Expect.same("a splitting without receivers", verbs.result(0, 0), NONE);
    }

    private static void promise16FromNoPlace() {
        Expect.sentence(16, "NONE when it got nothing: from no place");
        for (int start : new int[] {0, 9, LEAST, GREATEST}) {
            TextVerbs verbs = splitOnce();
            int text = Expect.text(verbs, "abcdefgh");
            verbs.receiver(text);
            verbs.split(text, start);
            Expect.same("from " + start, verbs.result(0, 0), NONE);
            Expect.same("an earlier one, from " + start, verbs.result(1, 0), NONE);
        }
    }

    private static void promise16TwentyReceivers() {
        Expect.sentence(16, "the i-th receiver: the 20th");
        TextVerbs verbs = new TextVerbs();
        int text = Expect.text(verbs, ",".repeat(19) + "ab,");
        int comma = Expect.text(verbs, ",");
        int taker = verbs.text(1);
        verbs.delimiter(comma, false);
        for (int k = 0; k < 20; k++) {
            verbs.receiver(taker);
        }
        Expect.same("split", verbs.split(text, 1), 23);
        for (int i = 0; i < 19; i++) {
            Expect.same("receiver " + i, verbs.result(i, 0), 0);
        }
        Expect.same("the 20th", verbs.result(19, 0), 2);
        Expect.same("its delimiter", verbs.result(19, 1), 0);
        Expect.same("there is no 21st", verbs.result(20, 0), NONE);
    }

    private static void promise16CollectingLeavesThem() {
        Expect.sentence(16, "of the latest splitting: collecting, joining and refused calls leave it");
        TextVerbs verbs = splitOnce();
        verbs.delimiter(0, true);
        verbs.receiver(0);
        verbs.join(0, 1);
        Expect.badArgument("a refused splitting", () -> verbs.split(9, 1));
        Expect.same("signs", verbs.result(0, 0), 4);
        Expect.same("delimiter", verbs.result(0, 1), 1);
    }
}
