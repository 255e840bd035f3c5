/** The boundary cases of promises 18 to 22, tables: a test for each sentence. */
public final class EdgesTablesTest {
    private static final int LEAST = Integer.MIN_VALUE;
    private static final int GREATEST = Integer.MAX_VALUE;
    private static final int[] NO_TABLES = {-1, 1, 2, 9, 10, LEAST, GREATEST};

    public static void main(String[] args) {
        promise18NumberedFromZero();
        promise18FewestRows();
        promise18MostRows();
        promise18TooFewRows();
        promise18TooManyRows();
        promise18AtMostTen();
        promise18RowsAreLookedAtFirst();
        promise18ForgetsNothingWhenFull();
        promise19ZeroAtFirst();
        promise19TheOneThatItHad();
        promise19LeastAndGreatestKey();
        promise19FirstAndLastRow();
        promise19NoSuchRow();
        promise19NoSuchTable();
        promise20OneAtFirst();
        promise20WhatItWas();
        promise20NoSuchRow();
        promise20NoSuchTable();
        promise20EachTableForItself();
        promise21SerialFromTheIndexOn();
        promise21SerialFirstSuchRow();
        promise21SerialLastRow();
        promise21SerialDoesNotGoRound();
        promise21SerialNone();
        promise21SerialLeastAndGreatestKey();
        promise21SerialSixtyRows();
        promise21BinaryMiddle();
        promise21BinaryOneAndTwoRows();
        promise21BinaryAheadAndBehind();
        promise21BinaryNone();
        promise21BinaryWhateverTheIndex();
        promise21BinaryUnsortedRows();
        promise21BinaryLeastAndGreatestKey();
        promise21BinarySixtyRows();
        promise21NoSuchTable();
        promise22Upwards();
        promise22Down();
        promise22OneRow();
        promise22EqualKeys();
        promise22SortedAlready();
        promise22LeastAndGreatestKey();
        promise22SixtyRows();
        promise22LeavesTheIndexAndOthers();
        promise22NoSuchTable();
        Expect.end();
    }

    private static int table(TextVerbs verbs, int... keys) {
        int number = verbs.table(keys.length);
        for (int i = 0; i < keys.length; i++) {
            verbs.row(number, i + 1, keys[i]);
        }
        return number;
    }

    private static void holds(String what, TextVerbs verbs, int table, int... keys) {
        for (int i = 0; i < keys.length; i++) {
            Expect.same(what + ", row " + (i + 1), verbs.row(table, i + 1, keys[i]), keys[i]);
        }
        Expect.badArgument(what + ", row behind the last", () -> verbs.row(table, keys.length + 1, 0));
    }

    /** The index, which is put back. */
    private static int indexOf(TextVerbs verbs, int table) {
        int index = verbs.index(table, 1);
        verbs.index(table, index);
        return index;
    }

    private static void promise18NumberedFromZero() {
        Expect.sentence(18, "TABLES are numbered from 0 on");
        TextVerbs verbs = new TextVerbs();
        verbs.text(3);
        Expect.same("the first", verbs.table(2), 0);
        Expect.same("the second", verbs.table(60), 1);
        Expect.same("texts have numbers of their own", verbs.text(3), 1);
    }

    private static void promise18FewestRows() {
        Expect.sentence(18, "of 1 .. ROWS");
        TextVerbs verbs = new TextVerbs();
        Expect.same("table(1)", verbs.table(1), 0);
        holds("one row", verbs, 0, 0);
    }

    private static void promise18MostRows() {
        Expect.sentence(18, "of .. 60 ROWS");
        TextVerbs verbs = new TextVerbs();
        Expect.same("table(60)", verbs.table(60), 0);
        holds("sixty rows", verbs, 0, new int[60]);
        Expect.same("table(59)", verbs.table(59), 1);
        holds("fifty-nine rows", verbs, 1, new int[59]);
    }

    private static void promise18TooFewRows() {
        Expect.sentence(18, "IllegalArgumentException when rows is not so: less than 1");
        TextVerbs verbs = new TextVerbs();
        for (int rows : new int[] {0, -1, LEAST}) {
            Expect.badArgument(rows + " rows", () -> verbs.table(rows));
            Expect.badArgument("no table was made", () -> verbs.search(0, false, 0));
        }
        Expect.same("the next number", verbs.table(1), 0);
    }

    private static void promise18TooManyRows() {
        Expect.sentence(18, "IllegalArgumentException when rows is not so: more than 60");
        TextVerbs verbs = new TextVerbs();
        for (int rows : new int[] {61, 62, GREATEST}) {
            Expect.badArgument(rows + " rows", () -> verbs.table(rows));
            Expect.badArgument("no table was made", () -> verbs.search(0, false, 0));
        }
        Expect.same("the next number", verbs.table(60), 0);
    }

    private static void promise18AtMostTen() {
        Expect.sentence(18, "IllegalStateException when there are 10");
        TextVerbs verbs = new TextVerbs();
        for (int k = 0; k < 10; k++) {
            Expect.same("table " + k, verbs.table(1 + k), k);
        }
        Expect.badState("the 11th", () -> verbs.table(1));
        Expect.badState("the 11th, the largest", () -> verbs.table(60));
        Expect.badArgument("there is no table 10", () -> verbs.index(10, 1));
        Expect.same("table 9 is there", verbs.index(9, 10), 1);
    }

    private static void promise18RowsAreLookedAtFirst() {
        Expect.sentence(18, "IllegalArgumentException when rows is not so, else IllegalStateException");
        TextVerbs verbs = new TextVerbs();
        for (int k = 0; k < 10; k++) {
            verbs.table(1);
        }
        Expect.badArgument("too few, and there are 10", () -> verbs.table(0));
        Expect.badArgument("too many, and there are 10", () -> verbs.table(61));
        Expect.badState("only that there are 10", () -> verbs.table(60));
    }

    private static void promise18ForgetsNothingWhenFull() {
        Expect.sentence(18, "at most 10");
        TextVerbs verbs = new TextVerbs();
        for (int k = 0; k < 10; k++) {
            verbs.row(verbs.table(60), 60, 100 + k);
            verbs.index(k, 60 - k);
        }
        Expect.badState("the 11th", () -> verbs.table(60));
        for (int k = 0; k < 10; k++) {
            Expect.same("key of table " + k, verbs.row(k, 60, 0), 100 + k);
            Expect.same("index of table " + k, verbs.index(k, 1), 60 - k);
        }
    }

    private static void promise19ZeroAtFirst() {
        Expect.sentence(19, "a KEY each (0 at first)");
        TextVerbs verbs = new TextVerbs();
        verbs.table(60);
        for (int i = 1; i <= 60; i++) {
            Expect.same("row " + i, verbs.row(0, i, -i), 0);
        }
    }

    private static void promise19TheOneThatItHad() {
        Expect.sentence(19, "A row gets a key: the one that it had");
        TextVerbs verbs = new TextVerbs();
        int table = table(verbs, 5, 6, 7);
        Expect.same("the first time", verbs.row(table, 2, 8), 6);
        Expect.same("the second time", verbs.row(table, 2, 9), 8);
        Expect.same("by the same", verbs.row(table, 2, 9), 9);
        holds("that row alone", verbs, table, 5, 9, 7);
    }

    private static void promise19LeastAndGreatestKey() {
        Expect.sentence(19, "A row gets a key: any");
        TextVerbs verbs = new TextVerbs();
        int table = verbs.table(1);
        Expect.same("at first", verbs.row(table, 1, LEAST), 0);
        Expect.same("the least", verbs.row(table, 1, GREATEST), LEAST);
        Expect.same("the greatest", verbs.row(table, 1, -1), GREATEST);
        Expect.same("-1", verbs.row(table, 1, 0), -1);
    }

    private static void promise19FirstAndLastRow() {
        Expect.sentence(19, "ROWS (1, 2, ..)");
        TextVerbs verbs = new TextVerbs();
        int table = verbs.table(60);
        int next = verbs.table(1);
        verbs.row(table, 1, 11);
        verbs.row(table, 60, 66);
        Expect.same("the first", verbs.row(table, 1, 0), 11);
        Expect.same("the last", verbs.row(table, 60, 0), 66);
        Expect.same("the next table", verbs.row(next, 1, 0), 0);
    }

    private static void promise19NoSuchRow() {
        Expect.sentence(19, "IllegalArgumentException when there is no such row");
        TextVerbs verbs = new TextVerbs();
        int table = table(verbs, 5, 6, 7);
        int next = table(verbs, 8);
        for (int i : new int[] {0, -1, 4, 5, 60, 61, LEAST, GREATEST}) {
            Expect.badArgument("row " + i, () -> verbs.row(table, i, 9));
            holds("behind row " + i, verbs, table, 5, 6, 7);
            holds("the next table behind row " + i, verbs, next, 8);
        }
    }

    private static void promise19NoSuchTable() {
        Expect.sentence(19, "IllegalArgumentException when there is no such table");
        TextVerbs verbs = new TextVerbs();
        int table = table(verbs, 5);
        for (int number : NO_TABLES) {
            Expect.badArgument("table " + number, () -> verbs.row(number, 1, 9));
            holds("behind table " + number, verbs, table, 5);
        }
    }

    private static void promise20OneAtFirst() {
        Expect.sentence(20, "an INDEX (1 at first)");
        TextVerbs verbs = new TextVerbs();
        for (int k = 0; k < 10; k++) {
            verbs.table(1 + k);
            Expect.same("table " + k, verbs.index(k, 1 + k), 1);
        }
    }

    private static void promise20WhatItWas() {
        Expect.sentence(20, "The index becomes i: what it was");
        TextVerbs verbs = new TextVerbs();
        int table = verbs.table(60);
        Expect.same("the last row", verbs.index(table, 60), 1);
        Expect.same("the first row", verbs.index(table, 1), 60);
        Expect.same("the same", verbs.index(table, 1), 1);
    }

    private static void promise20NoSuchRow() {
        Expect.sentence(20, "Throws as row: no such row");
        TextVerbs verbs = new TextVerbs();
        int table = table(verbs, 5, 6, 7);
        verbs.index(table, 2);
        for (int i : new int[] {0, -1, 4, 5, 60, 61, LEAST, GREATEST}) {
            Expect.badArgument("index " + i, () -> verbs.index(table, i));
            Expect.same("behind index " + i, verbs.index(table, 2), 2);
        }
        Expect.same("searching begins there", verbs.search(table, false, 5), 0);
    }

    private static void promise20NoSuchTable() {
        Expect.sentence(20, "Throws as row: no such table");
        TextVerbs verbs = new TextVerbs();
        int table = table(verbs, 5, 6);
        verbs.index(table, 2);
        for (int number : NO_TABLES) {
            Expect.badArgument("table " + number, () -> verbs.index(number, 1));
            Expect.same("behind table " + number, verbs.index(table, 2), 2);
        }
    }

    private static void promise20EachTableForItself() {
        Expect.sentence(20, "TABLES .. with .. an INDEX");
        TextVerbs verbs = new TextVerbs();
        int one = verbs.table(5);
        int two = verbs.table(5);
        verbs.index(one, 4);
        Expect.same("the other one", verbs.index(two, 3), 1);
        Expect.same("this one", verbs.index(one, 1), 4);
    }

    private static void promise21SerialFromTheIndexOn() {
        Expect.sentence(21, "SERIAL search looks from the index on");
        TextVerbs verbs = new TextVerbs();
        int table = table(verbs, 7, 8, 7, 8, 7);
        Expect.same("the row of the index itself", verbs.search(table, false, 7), 1);
        verbs.index(table, 2);
        Expect.same("behind the index", verbs.search(table, false, 7), 3);
        Expect.same("which is the index then", indexOf(verbs, table), 3);
        Expect.same("the same row again", verbs.search(table, false, 7), 3);
    }

    private static void promise21SerialFirstSuchRow() {
        Expect.sentence(21, "for the first row with a key");
        TextVerbs verbs = new TextVerbs();
        int table = table(verbs, 1, 2, 2, 2);
        Expect.same("the first of three", verbs.search(table, false, 2), 2);
        int zeros = verbs.table(3);
        Expect.same("keys are 0 at first", verbs.search(zeros, false, 0), 1);
    }

    private static void promise21SerialLastRow() {
        Expect.sentence(21, "SERIAL search: the last row");
        TextVerbs verbs = new TextVerbs();
        int table = table(verbs, 1, 2, 3);
        Expect.same("the last row", verbs.search(table, false, 3), 3);
        Expect.same("from the last row", verbs.search(table, false, 3), 3);
        Expect.same("no other row", verbs.search(table, false, 2), 0);
    }

    private static void promise21SerialDoesNotGoRound() {
        Expect.sentence(21, "SERIAL search looks from the index on: it does not go round");
        TextVerbs verbs = new TextVerbs();
        int table = table(verbs, 1, 2, 3);
        verbs.index(table, 2);
        Expect.same("ahead of the index", verbs.search(table, false, 1), 0);
        Expect.same("the index is left", indexOf(verbs, table), 2);
    }

    private static void promise21SerialNone() {
        Expect.sentence(21, "0, leaving it, for none: serial");
        TextVerbs verbs = new TextVerbs();
        int table = table(verbs, 1, 2, 3);
        Expect.same("no such key", verbs.search(table, false, 4), 0);
        Expect.same("the index is left", indexOf(verbs, table), 1);
        verbs.index(table, 3);
        Expect.same("no such key from the last row", verbs.search(table, false, 4), 0);
        Expect.same("the index is left", indexOf(verbs, table), 3);
    }

    private static void promise21SerialLeastAndGreatestKey() {
        Expect.sentence(21, "SERIAL search: the least and the greatest key");
        TextVerbs verbs = new TextVerbs();
        int table = table(verbs, 0, LEAST, GREATEST);
        Expect.same("the least", verbs.search(table, false, LEAST), 2);
        Expect.same("the greatest", verbs.search(table, false, GREATEST), 3);
    }

    private static void promise21SerialSixtyRows() {
        Expect.sentence(21, "SERIAL search: sixty rows");
        TextVerbs verbs = new TextVerbs();
        int table = verbs.table(60);
        verbs.row(table, 60, 5);
        Expect.same("the last of sixty", verbs.search(table, false, 5), 60);
        Expect.same("the index", verbs.index(table, 1), 60);
    }

    private static void promise21BinaryMiddle() {
        Expect.sentence(21, "looks at the middle one (of an even number the one ahead of the middle)");
        for (int rows = 1; rows <= 60; rows++) {
            TextVerbs verbs = new TextVerbs();
            int table = verbs.table(rows);
            Expect.same("of " + rows + " rows", verbs.search(table, true, 0), (rows + 1) / 2);
            Expect.same("the index", verbs.index(table, 1), (rows + 1) / 2);
        }
    }

    private static void promise21BinaryOneAndTwoRows() {
        Expect.sentence(21, "BINARY search begins with all rows: one, or two");
        TextVerbs verbs = new TextVerbs();
        int single = table(verbs, 4);
        Expect.same("the only row", verbs.search(single, true, 4), 1);
        Expect.same("nothing ahead of it", verbs.search(single, true, 3), 0);
        Expect.same("nothing behind it", verbs.search(single, true, 5), 0);
        int pair = table(verbs, 4, 6);
        Expect.same("the first of two", verbs.search(pair, true, 4), 1);
        Expect.same("the second of two", verbs.search(pair, true, 6), 2);
        Expect.same("nothing between them", verbs.search(pair, true, 5), 0);
    }

    private static void promise21BinaryAheadAndBehind() {
        Expect.sentence(21, "goes on with those ahead of it if the key is less than its, behind it if it is greater");
        TextVerbs verbs = new TextVerbs();
        int seven = table(verbs, 2, 4, 4, 6, 8, 8, 9);
        Expect.same("the middle of rows 1 to 3", verbs.search(seven, true, 4), 2);
        Expect.same("the middle of rows 5 to 7", verbs.search(seven, true, 8), 6);
        Expect.same("the first row", verbs.search(seven, true, 2), 1);
        Expect.same("the last row", verbs.search(seven, true, 9), 7);
        int six = table(verbs, 1, 1, 2, 3, 3, 3);
        Expect.same("the one ahead of the middle of rows 1 and 2", verbs.search(six, true, 1), 1);
        Expect.same("the middle of rows 4 to 6", verbs.search(six, true, 3), 5);
    }

    private static void promise21BinaryNone() {
        Expect.sentence(21, "0, leaving it, for none: binary");
        TextVerbs verbs = new TextVerbs();
        int table = table(verbs, 2, 4, 6, 8);
        verbs.index(table, 3);
        for (int key : new int[] {1, 3, 5, 7, 9, LEAST, GREATEST}) {
            Expect.same("key " + key, verbs.search(table, true, key), 0);
            Expect.same("the index is left", indexOf(verbs, table), 3);
        }
    }

    private static void promise21BinaryWhateverTheIndex() {
        Expect.sentence(21, "BINARY search begins with all rows: whatever the index is");
        TextVerbs verbs = new TextVerbs();
        int table = table(verbs, 1, 2, 3, 4, 5);
        for (int i = 1; i <= 5; i++) {
            verbs.index(table, i);
            Expect.same("from index " + i, verbs.search(table, true, 1), 1);
            Expect.same("which is the index then", indexOf(verbs, table), 1);
            verbs.index(table, i);
            Expect.same("from index " + i, verbs.search(table, true, 5), 5);
        }
    }

    private static void promise21BinaryUnsortedRows() {
        Expect.sentence(21, "BINARY search: rows that are not sorted");
        TextVerbs verbs = new TextVerbs();
        int table = table(verbs, 9, 8, 7, 6, 5, 4, 3);
        Expect.same("the middle one", verbs.search(table, true, 6), 4);
        Expect.same("9 is looked for behind it", verbs.search(table, true, 9), 0);
        Expect.same("3 is looked for ahead of it", verbs.search(table, true, 3), 0);
        int mixed = table(verbs, 3, 1, 5, 4, 2);
        Expect.same("3 by rows 3, 1", verbs.search(mixed, true, 3), 1);
        Expect.same("1 by rows 3, 1, not row 2", verbs.search(mixed, true, 1), 0);
        Expect.same("4 by rows 3, 1, 2, not row 4", verbs.search(mixed, true, 4), 0);
        Expect.same("2 by rows 3, 1, not row 5", verbs.search(mixed, true, 2), 0);
        Expect.same("6 by rows 3, 4, 5", verbs.search(mixed, true, 6), 0);
    }

    private static void promise21BinaryLeastAndGreatestKey() {
        Expect.sentence(21, "less than its, greater: the least and the greatest key");
        TextVerbs verbs = new TextVerbs();
        int table = table(verbs, LEAST, 1, GREATEST);
        Expect.same("the least", verbs.search(table, true, LEAST), 1);
        Expect.same("the greatest", verbs.search(table, true, GREATEST), 3);
        int wide = table(verbs, LEAST, GREATEST, GREATEST);
        Expect.same("from the greatest to the least", verbs.search(wide, true, LEAST), 1);
        int deep = table(verbs, LEAST, LEAST, GREATEST);
        Expect.same("from the least to the greatest", verbs.search(deep, true, GREATEST), 3);
    }

    private static void promise21BinarySixtyRows() {
        Expect.sentence(21, "BINARY search: sixty rows");
        TextVerbs verbs = new TextVerbs();
        int table = verbs.table(60);
        for (int i = 1; i <= 60; i++) {
            verbs.row(table, i, 2 * i);
        }
        for (int i = 1; i <= 60; i++) {
            Expect.same("row " + i, verbs.search(table, true, 2 * i), i);
            Expect.same("ahead of row " + i, verbs.search(table, true, 2 * i - 1), 0);
        }
        Expect.same("behind all", verbs.search(table, true, 121), 0);
    }

    private static void promise21NoSuchTable() {
        Expect.sentence(21, "IllegalArgumentException when there is no such table");
        TextVerbs verbs = new TextVerbs();
        int table = table(verbs, 5, 6);
        verbs.index(table, 2);
        for (int number : NO_TABLES) {
            Expect.badArgument("serial, table " + number, () -> verbs.search(number, false, 5));
            Expect.badArgument("binary, table " + number, () -> verbs.search(number, true, 5));
            Expect.same("behind table " + number, indexOf(verbs, table), 2);
        }
        Expect.same("a right call behind it", verbs.search(table, true, 5), 1);
    }

    private static void promise22Upwards() {
        Expect.sentence(22, "The rows are sorted by their keys, upwards");
        TextVerbs verbs = new TextVerbs();
        int table = table(verbs, 3, -1, 2, 0, 1);
        verbs.sort(table, false);
        holds("upwards", verbs, table, -1, 0, 1, 2, 3);
    }

    private static void promise22Down() {
        Expect.sentence(22, "The rows are sorted by their keys, or down");
        TextVerbs verbs = new TextVerbs();
        int table = table(verbs, 3, -1, 2, 0, 1);
        verbs.sort(table, true);
        holds("down", verbs, table, 3, 2, 1, 0, -1);
    }

    private static void promise22OneRow() {
        Expect.sentence(22, "The rows are sorted: one row");
        TextVerbs verbs = new TextVerbs();
        int table = table(verbs, 8);
        verbs.sort(table, false);
        holds("upwards", verbs, table, 8);
        verbs.sort(table, true);
        holds("down", verbs, table, 8);
    }

    private static void promise22EqualKeys() {
        Expect.sentence(22, "The rows are sorted: equal keys");
        TextVerbs verbs = new TextVerbs();
        int table = table(verbs, 2, 1, 2, 1, 2);
        verbs.sort(table, false);
        holds("upwards", verbs, table, 1, 1, 2, 2, 2);
        verbs.sort(table, true);
        holds("down", verbs, table, 2, 2, 2, 1, 1);
        int same = table(verbs, 4, 4, 4);
        verbs.sort(same, true);
        holds("all are equal", verbs, same, 4, 4, 4);
    }

    private static void promise22SortedAlready() {
        Expect.sentence(22, "The rows are sorted: they were already");
        TextVerbs verbs = new TextVerbs();
        int table = table(verbs, 1, 2, 3);
        verbs.sort(table, false);
        holds("upwards", verbs, table, 1, 2, 3);
        verbs.sort(table, true);
        holds("turned round", verbs, table, 3, 2, 1);
        verbs.sort(table, true);
        holds("down", verbs, table, 3, 2, 1);
        verbs.sort(table, false);
        holds("turned round again", verbs, table, 1, 2, 3);
    }

    private static void promise22LeastAndGreatestKey() {
        Expect.sentence(22, "by their keys: the least and the greatest");
        TextVerbs verbs = new TextVerbs();
        int table = table(verbs, GREATEST, 0, LEAST, -1, 1);
        verbs.sort(table, false);
        holds("upwards", verbs, table, LEAST, -1, 0, 1, GREATEST);
        verbs.sort(table, true);
        holds("down", verbs, table, GREATEST, 1, 0, -1, LEAST);
    }

    private static void promise22SixtyRows() {
        Expect.sentence(22, "The rows are sorted: sixty");
        TextVerbs verbs = new TextVerbs();
        int table = verbs.table(60);
        int[] due = new int[60];
        for (int i = 1; i <= 60; i++) {
            verbs.row(table, i, 61 - i);
            due[i - 1] = i;
        }
        verbs.sort(table, false);
        holds("upwards", verbs, table, due);
        Expect.same("searching by halves finds them", verbs.search(table, true, 60), 60);
    }

    private static void promise22LeavesTheIndexAndOthers() {
        Expect.sentence(22, "The rows are sorted: nothing else changes");
        TextVerbs verbs = new TextVerbs();
        int table = table(verbs, 3, 2, 1);
        int other = table(verbs, 3, 2, 1);
        verbs.index(table, 2);
        verbs.sort(table, false);
        Expect.same("its index", indexOf(verbs, table), 2);
        holds("the other table", verbs, other, 3, 2, 1);
        Expect.same("the index of the other one", indexOf(verbs, other), 1);
    }

    private static void promise22NoSuchTable() {
        Expect.sentence(22, "Throws as search");
        TextVerbs verbs = new TextVerbs();
        int table = table(verbs, 6, 5);
        for (int number : NO_TABLES) {
            Expect.badArgument("upwards, table " + number, () -> verbs.sort(number, false));
            Expect.badArgument("down, table " + number, () -> verbs.sort(number, true));
            holds("behind table " + number, verbs, table, 6, 5);
        }
        verbs.sort(table, false);
        holds("a right call behind it", verbs, table, 5, 6);
    }
}
