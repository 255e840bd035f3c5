/** The general rules of the document's "Terms", in their order: a test for each that fails if it is broken. */
public final class TermsTest {
    private static final int CHARACTERS = 0;
    private static final int ALL = 1;
    private static final int LEADING = 2;
    private static final int FIRST = 3;

    public static void main(String[] args) {
        texts();
        inspect();
        string();
        unstring();
        tables();
        Expect.end();
    }

    private static void texts() {
        textsAreNumbered();
        textsHaveASize();
        textsHoldSigns();
        textsAreBlankAtFirst();
        aTextOccurs();
        anEmptyTextOccursNowhere();
    }

    private static void inspect() {
        phrasesAreCollected();
        regionBeginsAfter();
        regionEndsBefore();
        regionWithoutSpans();
        regionsAreEachPhrases();
        aMatchLiesInTheRegion();
        charactersMatchOneSign();
        allMatchesWhereverItMay();
        leadingMatchesWithoutABreak();
        firstMatchesOnce();
        phrasesAreAskedInOrder();
        itGoesOnBehindTheMatch();
        tallyingAddsOne();
        replacingPutsATextOfThatSize();
        tallyingGoesFirst();
        regionsAreThoseOfTheBeginning();
    }

    private static void string() {
        partsAreCollected();
        aPartGoesUpToAnother();
        joiningPutsSigns();
        joiningOverflows();
    }

    private static void unstring() {
        delimitersAndReceiversAreCollected();
        eachReceiverUntilTheTextIsOver();
        theNextDelimiter();
        theFirstDelimiterInTheirOrder();
        blanksBehindOrCut();
        pointerComesBehindTheDelimiter();
        withoutADelimiterAhead();
        noneWasCollected();
        splittingOverflows();
    }

    private static void tables() {
        tablesAreNumbered();
        tablesHaveRows();
        serialSearch();
        binarySearch();
    }

    private static void textsAreNumbered() {
        Expect.rule("TEXTS are numbered from 0 on, at most 40");
        TextVerbs verbs = new TextVerbs();
        for (int k = 0; k < 40; k++) {
            Expect.same("text " + k, verbs.text(k), k);
        }
        Expect.badState("a 41st one", () -> verbs.text(1));
        Expect.badArgument("number 40", () -> verbs.at(40, 0));
    }

    private static void textsHaveASize() {
        Expect.rule("each of a SIZE 0 .. 60");
        TextVerbs verbs = new TextVerbs();
        Expect.badArgument("-1", () -> verbs.text(-1));
        Expect.badArgument("61", () -> verbs.text(61));
        Expect.holds("0", verbs, verbs.text(0), "");
        Expect.holds("60", verbs, verbs.text(60), " ".repeat(60));
    }

    private static void textsHoldSigns() {
        Expect.rule("signs 0 .. 255 at places 0, 1, ..");
        for (int sign = 0; sign <= 255; sign++) {
            TextVerbs verbs = new TextVerbs();
            String signs = "" + (char) sign + (char) (255 - sign);
            Expect.holds("sign " + sign, verbs, Expect.text(verbs, signs), signs);
        }
        TextVerbs verbs = new TextVerbs();
        int text = verbs.text(2);
        Expect.badArgument("sign -1", () -> verbs.set(text, 0, -1));
        Expect.badArgument("sign 256", () -> verbs.set(text, 0, 256));
    }

    private static void textsAreBlankAtFirst() {
        Expect.rule("blanks (32) at first");
        TextVerbs verbs = new TextVerbs();
        int text = verbs.text(5);
        for (int place = 0; place < 5; place++) {
            Expect.same("place " + place, verbs.at(text, place), 32);
        }
    }

    private static void aTextOccurs() {
        Expect.rule("A text OCCURS at a place of another one if its signs stand there from the place on");
        Expect.same("twice", tallied("on and on", "", "", ALL, "on"), 2);
        Expect.same("with each of its signs", tallied("ona onb", "", "", ALL, "onc"), 0);
        Expect.same("not beyond the end", tallied("moon m", "", "", ALL, "mo"), 1);
        Expect.same("all of it", tallied("moon", "", "", ALL, "moon"), 1);
    }

    private static void anEmptyTextOccursNowhere() {
        Expect.rule("it must not be empty");
        TextVerbs verbs = new TextVerbs();
        int empty = verbs.text(0);
        int one = verbs.text(1);
        Expect.badArgument("AFTER", () -> verbs.span(true, empty));
        Expect.badArgument("BEFORE", () -> verbs.span(false, empty));
        Expect.badArgument("a tallying phrase's", () -> verbs.tally(ALL, empty, 0));
        Expect.badArgument("a replacing phrase's", () -> verbs.replace(FIRST, empty, empty));
        Expect.badArgument("what ends a part", () -> verbs.part(one, empty));
        Expect.badArgument("a delimiter", () -> verbs.delimiter(empty, true));
    }

    private static void phrasesAreCollected() {
        Expect.rule("PHRASES are collected (at most 20)");
        TextVerbs verbs = new TextVerbs();
        int text = Expect.text(verbs, "a");
        for (int k = 1; k <= 20; k++) {
            Expect.same("phrase " + k, k <= 10 ? verbs.tally(ALL, text, 0) : verbs.replace(ALL, text, text), k);
        }
        Expect.badState("a 21st one, tallying", () -> verbs.tally(ALL, text, 0));
        Expect.badState("a 21st one, replacing", () -> verbs.replace(ALL, text, text));
    }

    private static void regionBeginsAfter() {
        Expect.rule("from behind the first occurrence of one text in it (AFTER; nothing, if there is none)");
        Expect.same("behind the first one", marked("k=v=w", "=", ""), "k=###");
        Expect.same("behind all its signs", marked("k==v=", "==", ""), "k==##");
        Expect.same("there is none", marked("k=v=w", ":", ""), "k=v=w");
        Expect.same("nothing is behind it", marked("kv=", "=", ""), "kv=");
    }

    private static void regionEndsBefore() {
        Expect.rule("to ahead of the first occurrence of another one (BEFORE; to the end, if there is none)");
        Expect.same("ahead of the first one", marked("k=v=w", "", "="), "#=v=w");
        Expect.same("there is none", marked("k=v=w", "", ":"), "#####");
        Expect.same("nothing is ahead of it", marked("=kv", "", "="), "=kv");
        Expect.same("both", marked("k=v;w", "=", ";"), "k=#;w");
        Expect.same("the end is ahead of the beginning", marked("k;v=w", "=", ";"), "k;v=w");
    }

    private static void regionWithoutSpans() {
        Expect.rule("without those from its beginning, to its end");
        Expect.same("all of it", marked("k=v", "", ""), "###");
        Expect.same("to its end", marked("k=v", "k", ""), "k##");
        Expect.same("from its beginning", marked("k=v", "", "v"), "##v");
    }

    private static void regionsAreEachPhrases() {
        Expect.rule("PHRASES .., each with a REGION of the text that will be inspected");
        TextVerbs verbs = new TextVerbs();
        int text = Expect.text(verbs, "aa-aa");
        int other = Expect.text(verbs, "-aaaa");
        int dash = Expect.text(verbs, "-");
        int a = Expect.text(verbs, "a");
        verbs.span(true, dash);
        verbs.tally(ALL, a, 1);
        verbs.span(false, dash);
        verbs.tally(ALL, a, 2);
        verbs.span(true, dash);
        verbs.replace(FIRST, a, dash);
        Expect.same("of the text that is inspected", verbs.inspect(other), 1);
        Expect.holds("behind the dash", verbs, other, "--aaa");
        Expect.same("behind the dash", verbs.counter(1), 4);
        Expect.same("ahead of the dash", verbs.counter(2), 0);
        Expect.holds("another text", verbs, text, "aa-aa");
    }

    private static void aMatchLiesInTheRegion() {
        Expect.rule("A phrase MATCHES at a place if its text occurs there with all its signs in the region");
        Expect.same("over its beginning", tallied("xab ab", "xa", "", ALL, "ab"), 1);
        Expect.same("over its end", tallied("ab aby", "", "by", ALL, "ab"), 1);
        Expect.same("just in it", tallied("xaby", "x", "y", ALL, "ab"), 1);
        Expect.same("LEADING, over its end", tallied("ababab", "", "bab", LEADING, "ab"), 0);
    }

    private static void charactersMatchOneSign() {
        Expect.rule("CHARACTERS (0) match each one sign there");
        Expect.same("each of five", tallied("ab ba", "", "", CHARACTERS, ""), 5);
        Expect.same("in the region", tallied("ab ba", " ", "", CHARACTERS, ""), 2);
        Expect.same("of an empty text", tallied("", "", "", CHARACTERS, ""), 0);
    }

    private static void allMatchesWhereverItMay() {
        Expect.rule("ALL (1): wherever it may");
        Expect.same("at the beginning, in the middle, at the end", tallied("oxoxxo", "", "", ALL, "o"), 3);
        Expect.same("replaced", replaced("oxoxxo", "", "", ALL, "o", "-"), "-x-xx- 3");
    }

    private static void leadingMatchesWithoutABreak() {
        Expect.rule("LEADING (2): at the region's beginning, and just behind each of its own matches, without a break");
        Expect.same("two, and one behind a break", tallied("00700", "", "", LEADING, "0"), 2);
        Expect.same("none at the beginning", tallied("7000", "", "", LEADING, "0"), 0);
        Expect.same("replaced", replaced("00700", "", "", LEADING, "0", "*"), "**700 2");
        Expect.same("behind a sign", replaced("$00700", "$", "", LEADING, "0", "*"), "$**700 2");
        Expect.same("of two signs", replaced("ababaab", "", "", LEADING, "ab", "12"), "1212aab 2");
    }

    private static void firstMatchesOnce() {
        Expect.rule("FIRST (3): once");
        Expect.same("the first of three", replaced("oxoxxo", "", "", FIRST, "o", "-"), "-xoxxo 1");
        Expect.same("not only at the beginning", replaced("xxoxo", "", "", FIRST, "o", "-"), "xx-xo 1");
        Expect.same("in the region", replaced("oxoxo", "x", "", FIRST, "o", "-"), "ox-xo 1");
    }

    private static void phrasesAreAskedInOrder() {
        Expect.rule("at each place phrases are asked in their order; the first one that matches acts");
        TextVerbs verbs = new TextVerbs();
        int text = Expect.text(verbs, "cat car");
        int ca = Expect.text(verbs, "ca");
        int car = Expect.text(verbs, "car");
        verbs.tally(ALL, car, 1);
        verbs.tally(ALL, ca, 2);
        verbs.tally(CHARACTERS, 0, 3);
        verbs.inspect(text);
        Expect.same("car", verbs.counter(1), 1);
        Expect.same("ca", verbs.counter(2), 1);
        Expect.same("the rest", verbs.counter(3), 2);
        verbs.tally(ALL, ca, 2);
        verbs.tally(ALL, car, 1);
        verbs.inspect(text);
        Expect.same("car, asked later", verbs.counter(1), 0);
        Expect.same("ca, asked first", verbs.counter(2), 2);
    }

    private static void itGoesOnBehindTheMatch() {
        Expect.rule("The text is gone through from the left: .. it goes on behind what matched; if none "
                + "does, at the next place");
        Expect.same("no match in a match", tallied("ooooo", "", "", ALL, "oo"), 2);
        Expect.same("from the left", replaced("xooo", "", "", ALL, "oo", "--"), "x--o 1");
        Expect.same("what was put is not asked for", replaced("ab", "", "", ALL, "a", "b"), "bb 1");
        Expect.same("the next place", replaced("aaab", "", "", ALL, "ab", "--"), "aa-- 1");
    }

    private static void tallyingAddsOne() {
        Expect.rule("TALLYING ones add 1 to a COUNTER (0 .. 9)");
        TextVerbs verbs = new TextVerbs();
        int text = Expect.text(verbs, "aabb");
        int aa = Expect.text(verbs, "aa");
        int b = Expect.text(verbs, "b");
        for (int k = 0; k <= 9; k++) {
            verbs.tally(ALL, aa, k);
            verbs.tally(ALL, b, k);
            verbs.inspect(text);
            Expect.same("counter " + k, verbs.counter(k), 3);
        }
        Expect.badArgument("counter -1", () -> verbs.tally(ALL, b, -1));
        Expect.badArgument("counter 10", () -> verbs.tally(ALL, b, 10));
    }

    private static void replacingPutsATextOfThatSize() {
        Expect.rule("REPLACING ones put a text of the same size (for CHARACTERS of size 1) there");
        Expect.same("two signs", replaced("yes no", "", "", ALL, "no", "on"), "yes on 1");
        Expect.same("CHARACTERS", replaced("yes", "", "", CHARACTERS, "", "*"), "*** 3");
        TextVerbs verbs = new TextVerbs();
        int one = verbs.text(1);
        int two = verbs.text(2);
        Expect.badArgument("a longer one", () -> verbs.replace(ALL, one, two));
        Expect.badArgument("a shorter one", () -> verbs.replace(ALL, two, one));
        Expect.badArgument("two signs for CHARACTERS", () -> verbs.replace(CHARACTERS, two, two));
    }

    private static void tallyingGoesFirst() {
        Expect.rule("All tallying ones go over the text first, then all replacing ones");
        TextVerbs verbs = new TextVerbs();
        int text = Expect.text(verbs, "aba");
        int a = Expect.text(verbs, "a");
        int c = Expect.text(verbs, "c");
        verbs.replace(ALL, a, c);
        verbs.tally(ALL, a, 0);
        verbs.tally(ALL, c, 1);
        Expect.same("replaced", verbs.inspect(text), 2);
        Expect.holds("replaced", verbs, text, "cbc");
        Expect.same("tallied as they were", verbs.counter(0), 2);
        Expect.same("tallied as they will be", verbs.counter(1), 0);
    }

    private static void regionsAreThoseOfTheBeginning() {
        Expect.rule("regions are those of the text as it is at the beginning of each");
        TextVerbs verbs = new TextVerbs();
        int text = Expect.text(verbs, "a;a;a");
        int a = Expect.text(verbs, "a");
        int semicolon = Expect.text(verbs, ";");
        int dot = Expect.text(verbs, ".");
        verbs.replace(FIRST, semicolon, dot);
        verbs.span(true, semicolon);
        verbs.replace(ALL, a, semicolon);
        verbs.span(false, semicolon);
        verbs.replace(ALL, a, dot);
        Expect.same("though the first semicolon goes", verbs.inspect(text), 4);
        Expect.holds("though the first semicolon goes", verbs, text, "..;;;");
    }

    private static void partsAreCollected() {
        Expect.rule("PARTS are collected (at most 20)");
        TextVerbs verbs = new TextVerbs();
        int into = verbs.text(20);
        int a = Expect.text(verbs, "a");
        for (int k = 1; k <= 20; k++) {
            Expect.same("part " + k, verbs.part(a, TextVerbs.NONE), k);
        }
        Expect.badState("a 21st one", () -> verbs.part(a, TextVerbs.NONE));
        Expect.same("all twenty", verbs.join(into, 1), 21);
        Expect.holds("all twenty", verbs, into, "a".repeat(20));
    }

    private static void aPartGoesUpToAnother() {
        Expect.rule("a text up to the first occurrence of another one in it, or all of it");
        Expect.same("up to the first blank", joined("......", 1, "ann b c", " "), "ann... 4");
        Expect.same("there is none", joined("......", 1, "ann", " "), "ann... 4");
        Expect.same("all of it", joined("......", 1, "ann b", ""), "ann b. 6");
        Expect.same("up to two signs", joined("......", 1, "a b  c", "  "), "a b... 4");
    }

    private static void joiningPutsSigns() {
        Expect.rule("Joining puts their signs, one after the other, into a text from a POINTER on (1 is "
                + "the first place)");
        Expect.same("from the first place", joined("......", 1, "ab", "", "c", "", "de", ""), "abcde. 6");
        Expect.same("from the second place", joined("......", 2, "ab", "", "c", "", "de", ""), ".abcde 7");
    }

    private static void joiningOverflows() {
        Expect.rule("it OVERFLOWS if the pointer is no place at the beginning, or there is a sign and no place for it");
        Expect.same("pointer 0", joined("...", 0, "a", ""), "... -1");
        Expect.same("behind the last place", joined("...", 4, "a", ""), "... -1");
        Expect.same("without any part", joined("...", 4), "... -1");
        Expect.same("a sign too many", joined("...", 3, "ab", ""), "..a -1");
        Expect.same("in a later part", joined("...", 1, "ab", "", "cd", ""), "abc -1");
        Expect.same("no sign and no place", joined("...", 1, "abc", "", "", ""), "abc 4");
    }

    private static void delimitersAndReceiversAreCollected() {
        Expect.rule("DELIMITERS (at most 8), each with ALL or not, and RECEIVERS (at most 20) are collected");
        TextVerbs verbs = new TextVerbs();
        int text = Expect.text(verbs, "x");
        for (int k = 1; k <= 8; k++) {
            Expect.same("delimiter " + k, verbs.delimiter(text, k % 2 == 0), k);
        }
        for (int k = 1; k <= 20; k++) {
            Expect.same("receiver " + k, verbs.receiver(text), k);
        }
        Expect.badState("a ninth delimiter", () -> verbs.delimiter(text, false));
        Expect.badState("a 21st receiver", () -> verbs.receiver(text));
    }

    private static void eachReceiverUntilTheTextIsOver() {
        Expect.rule("Splitting goes through a text from a pointer on: for each receiver, as long as the "
                + "text isn't over");
        Expect.same("from the first place", split("a,b", 1, ",", 1, 1), "[a]1/0 [b]1/-1 4");
        Expect.same("from the third place", split("a,b", 3, ",", 1, 1), "[b]1/-1 [.]-1/-1 4");
        Expect.same("over by a delimiter", split("a,", 1, ",", 1, 1), "[a]1/0 [.]-1/-1 3");
    }

    private static void theNextDelimiter() {
        Expect.rule("what lies ahead of the next delimiter (the first place at which one occurs) is moved to it");
        Expect.same("a later one in their order", split("a;b,c", 1, ",|;", 1, 1, 1), "[a]1/1 [b]1/0 [c]1/-1 6");
        Expect.same("nothing lies ahead", split(",b", 1, ",", 1, 1), "[ ]0/0 [b]1/-1 3");
        Expect.same("one of two signs", split("a-b->c", 1, "->", 3, 1), "[a-b]3/0 [c]1/-1 7");
    }

    private static void theFirstDelimiterInTheirOrder() {
        Expect.rule("the first in their order that does");
        Expect.same("the shorter one is first", split("a->b", 1, "-|->", 1, 2), "[a]1/0 [>b]2/-1 5");
        Expect.same("the longer one is first", split("a->b", 1, "->|-", 1, 2), "[a]1/0 [b ]1/-1 5");
    }

    private static void blanksBehindOrCut() {
        Expect.rule("is moved to it, blanks behind or cut");
        Expect.same("blanks behind", split("ab,cd", 1, ",", 4, 3), "[ab  ]2/0 [cd ]2/-1 6");
        Expect.same("cut", split("abc,def", 1, ",", 2, 1), "[ab]3/0 [d]3/-1 8");
    }

    private static void pointerComesBehindTheDelimiter() {
        Expect.rule("the pointer comes behind that delimiter (with ALL: behind all its occurrences that "
                + "follow one another at once)");
        Expect.same("behind one", split("a,,b", 1, ",", 1, 1, 1), "[a]1/0 [ ]0/0 [b]1/-1 5");
        Expect.same("ALL", split("a,,b", 1, "*,", 1, 1), "[a]1/0 [b]1/-1 5");
        Expect.same("ALL, of two signs", split("a--->b", 1, "*--", 1, 2), "[a]1/0 [->]3/-1 7");
        Expect.same("ALL, not another's", split("a,;,b", 1, "*,|;", 1, 1, 1), "[a]1/0 [ ]0/1 [ ]0/0 -1");
        Expect.same("ALL, with a break", split("a,b,,c", 1, "*,", 1, 1, 1), "[a]1/0 [b]1/0 [c]1/-1 7");
    }

    private static void withoutADelimiterAhead() {
        Expect.rule("Without any delimiter ahead all that is left is moved");
        Expect.same("all of it", split("abc", 1, ",", 3, 1), "[abc]3/-1 [.]-1/-1 4");
        Expect.same("one lies ahead of the pointer", split("a,bc", 3, ",", 3), "[bc ]2/-1 5");
    }

    private static void noneWasCollected() {
        Expect.rule("if none was collected, so many signs as the receiver has (or all that are left)");
        Expect.same("so many as each has", split("abcdef", 1, "", 1, 2, 3), "[a]1/-1 [bc]2/-1 [def]3/-1 7");
        Expect.same("all that are left", split("abc", 1, "", 2, 3), "[ab]2/-1 [c  ]1/-1 4");
    }

    private static void splittingOverflows() {
        Expect.rule("It overflows if the pointer is no place at the beginning, or something is left "
                + "behind the last receiver");
        Expect.same("pointer 0", split("a,b", 0, ",", 1), "[.]-1/-1 -1");
        Expect.same("behind the last place", split("a,b", 4, ",", 1), "[.]-1/-1 -1");
        Expect.same("something is left", split("a,b", 1, ",", 1), "[a]1/0 -1");
        Expect.same("a delimiter is left", split("a,,", 1, ",", 1), "[a]1/0 -1");
        Expect.same("nothing is left", split("a,", 1, ",", 1), "[a]1/0 3");
        Expect.same("without a receiver", split("a", 1, ","), "-1");
    }

    private static void tablesAreNumbered() {
        Expect.rule("TABLES are numbered from 0 on, at most 10");
        TextVerbs verbs = new TextVerbs();
        for (int k = 0; k < 10; k++) {
            Expect.same("table " + k, verbs.table(1 + k), k);
        }
        Expect.badState("an eleventh one", () -> verbs.table(1));
        Expect.badArgument("number 10", () -> verbs.row(10, 1, 0));
    }

    private static void tablesHaveRows() {
        Expect.rule("of 1 .. 60 ROWS (1, 2, ..) with a KEY each (0 at first) and an INDEX (1 at first)");
        TextVerbs verbs = new TextVerbs();
        Expect.badArgument("no row", () -> verbs.table(0));
        Expect.badArgument("61 rows", () -> verbs.table(61));
        int table = verbs.table(60);
        Expect.same("index", verbs.index(table, 60), 1);
        for (int row = 1; row <= 60; row++) {
            Expect.same("key of row " + row, verbs.row(table, row, row), 0);
        }
        Expect.badArgument("row 0", () -> verbs.row(table, 0, 0));
        Expect.badArgument("row 61", () -> verbs.row(table, 61, 0));
    }

    private static void serialSearch() {
        Expect.rule("SERIAL search looks from the index on for the first row with a key");
        TextVerbs verbs = tableOf(5, 7, 5, 7, 9);
        Expect.same("the first one", verbs.search(0, false, 7), 2);
        Expect.same("from row 2 on", verbs.search(0, false, 5), 3);
        Expect.same("from row 3 on", verbs.search(0, false, 5), 3);
        verbs.index(0, 4);
        Expect.same("it lies ahead of the index", verbs.search(0, false, 5), 0);
        Expect.same("the last row", verbs.search(0, false, 9), 5);
    }

    private static void binarySearch() {
        Expect.rule("BINARY search begins with all rows, looks at the middle one (of an even number the "
                + "one ahead of the middle)");
        Expect.same("of five", tableOf(4, 4, 4, 4, 4).search(0, true, 4), 3);
        Expect.same("of four", tableOf(4, 4, 4, 4).search(0, true, 4), 2);
        Expect.same("of two", tableOf(4, 4).search(0, true, 4), 1);
        TextVerbs verbs = tableOf(4, 4, 4, 4, 4);
        verbs.index(0, 5);
        Expect.same("whatever the index is", verbs.search(0, true, 4), 3);
        Expect.rule("goes on with those ahead of it if the key is less than its, behind it if it is greater");
        TextVerbs sorted = tableOf(10, 20, 30, 40, 50, 60, 70);
        for (int row = 1; row <= 7; row++) {
            Expect.same("row " + row, sorted.search(0, true, 10 * row), row);
            Expect.same("behind row " + row, sorted.search(0, true, 10 * row + 5), 0);
        }
        TextVerbs mixed = tableOf(10, 50, 30, 20, 40);
        Expect.same("it is not ahead of it", mixed.search(0, true, 20), 0);
        Expect.same("it is not behind it", mixed.search(0, true, 50), 0);
        Expect.same("it is ahead of it", mixed.search(0, true, 10), 1);
        Expect.same("it is behind it", mixed.search(0, true, 40), 5);
    }

    private static void tellSpans(TextVerbs verbs, String after, String before) {
        if (!after.isEmpty()) {
            verbs.span(true, Expect.text(verbs, after));
        }
        if (!before.isEmpty()) {
            verbs.span(false, Expect.text(verbs, before));
        }
    }

    private static int tallied(String signs, String after, String before, int kind, String sought) {
        TextVerbs verbs = new TextVerbs();
        int text = Expect.text(verbs, signs);
        int from = Expect.text(verbs, sought);
        tellSpans(verbs, after, before);
        verbs.tally(kind, from, 0);
        verbs.inspect(text);
        return verbs.counter(0);
    }

    /** The text as it is then, and how many times the phrase acted. */
    private static String replaced(String signs, String after, String before, int kind, String sought, String put) {
        TextVerbs verbs = new TextVerbs();
        int text = Expect.text(verbs, signs);
        int from = Expect.text(verbs, sought);
        int to = Expect.text(verbs, put);
        tellSpans(verbs, after, before);
        verbs.replace(kind, from, to);
        int times = verbs.inspect(text);
        return Expect.read(verbs, text, signs.length()) + " " + times;
    }

    /** The text with each sign of the region replaced by #. */
    private static String marked(String signs, String after, String before) {
        return replaced(signs, after, before, CHARACTERS, "", "#").substring(0, signs.length());
    }

    /** The text as it is then, and what join answered; parts are pairs of a text and what ends it (or nothing). */
    private static String joined(String signs, int pointer, String... parts) {
        TextVerbs verbs = new TextVerbs();
        int into = Expect.text(verbs, signs);
        for (int k = 0; k < parts.length; k += 2) {
            int from = Expect.text(verbs, parts[k]);
            verbs.part(from, parts[k + 1].isEmpty() ? TextVerbs.NONE : Expect.text(verbs, parts[k + 1]));
        }
        int answer = verbs.join(into, pointer);
        return Expect.read(verbs, into, signs.length()) + " " + answer;
    }

    /** Each receiver (dots at first) with its results, and what split answered; a delimiter behind * has ALL. */
    private static String split(String signs, int pointer, String delimiters, int... sizes) {
        TextVerbs verbs = new TextVerbs();
        int from = Expect.text(verbs, signs);
        for (String delimiter : delimiters.isEmpty() ? new String[0] : delimiters.split("\\|")) {
            boolean all = delimiter.startsWith("*");
            verbs.delimiter(Expect.text(verbs, all ? delimiter.substring(1) : delimiter), all);
        }
        int first = from;
        for (int k = 0; k < sizes.length; k++) {
            int receiver = Expect.text(verbs, ".".repeat(sizes[k]));
            verbs.receiver(receiver);
            first = k == 0 ? receiver : first;
        }
        int answer = verbs.split(from, pointer);
        StringBuilder words = new StringBuilder();
        for (int k = 0; k < sizes.length; k++) {
            words.append('[').append(Expect.read(verbs, first + k, sizes[k])).append(']');
            words.append(verbs.result(k, 0)).append('/').append(verbs.result(k, 1)).append(' ');
        }
        return words.append(answer).toString();
    }

    private static TextVerbs tableOf(int... keys) {
        TextVerbs verbs = new TextVerbs();
        int table = verbs.table(keys.length);
        for (int k = 0; k < keys.length; k++) {
            verbs.row(table, k + 1, keys[k]);
        }
        return verbs;
    }
}
