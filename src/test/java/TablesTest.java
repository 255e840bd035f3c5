/** Promises 18 to 22: table, row, index, search, sort. */
public final class TablesTest {
    private static final int LEAST = Integer.MIN_VALUE;
    private static final int GREATEST = Integer.MAX_VALUE;

    public static void main(String[] args) {
        promise18Table();
        promise19Row();
        promise20Index();
        promise21Serial();
        promise21Binary();
        promise21Wrong();
        promise22Sort();
        Expect.end();
    }

    private static int table(TextVerbs verbs, int... keys) {
        int number = verbs.table(keys.length);
        for (int i = 0; i < keys.length; i++) {
            verbs.row(number, i + 1, keys[i]);
        }
        return number;
    }

    private static void holds(String what, TextVerbs verbs, int table, int... keys) {
        for (int i = 0; i < keys.length; i++) {
            Expect.same(what + ", row " + (i + 1), verbs.row(table, i + 1, keys[i]), keys[i]);
        }
    }

    private static void promise18Table() {
        TextVerbs verbs = new TextVerbs();
        Expect.badArgument("no rows", () -> verbs.table(0));
        Expect.badArgument("61 rows", () -> verbs.table(61));
        Expect.badArgument("-1 rows", () -> verbs.table(-1));
        Expect.badArgument("the least", () -> verbs.table(LEAST));
        for (int k = 0; k < 10; k++) {
            Expect.same("table " + k, verbs.table(k == 0 ? 1 : 60), k);
        }
        Expect.badState("11th table", () -> verbs.table(1));
        Expect.badArgument("11th table, wrong", () -> verbs.table(61));
        Expect.same("the last row of the last table", verbs.row(9, 60, 4), 0);
        Expect.same("its index", verbs.index(9, 60), 1);
    }

    private static void promise19Row() {
        TextVerbs verbs = new TextVerbs();
        int table = verbs.table(2);
        int other = verbs.table(2);
        Expect.same("0 at first", verbs.row(table, 1, LEAST), 0);
        Expect.same("the one that it had", verbs.row(table, 1, GREATEST), LEAST);
        Expect.same("the other row", verbs.row(table, 2, 5), 0);
        holds("keys", verbs, table, GREATEST, 5);
        holds("the other table", verbs, other, 0, 0);
        Expect.badArgument("row 0", () -> verbs.row(table, 0, 1));
        Expect.badArgument("row 3", () -> verbs.row(table, 3, 1));
        Expect.badArgument("the least row", () -> verbs.row(table, LEAST, 1));
        Expect.badArgument("no table", () -> verbs.row(2, 1, 1));
        Expect.badArgument("table -1", () -> verbs.row(-1, 1, 1));
        holds("unchanged", verbs, table, GREATEST, 5);
    }

    private static void promise20Index() {
        TextVerbs verbs = new TextVerbs();
        int table = verbs.table(3);
        Expect.same("1 at first", verbs.index(table, 3), 1);
        Expect.same("what it was", verbs.index(table, 2), 3);
        Expect.badArgument("index 0", () -> verbs.index(table, 0));
        Expect.badArgument("index 4", () -> verbs.index(table, 4));
        Expect.badArgument("no table", () -> verbs.index(1, 1));
        Expect.badArgument("table -1", () -> verbs.index(-1, 1));
        Expect.same("unchanged", verbs.index(table, 1), 2);
    }

    private static void promise21Serial() {
        TextVerbs verbs = new TextVerbs();
        int table = table(verbs, 7, 3, 7, 9, 3);
        Expect.same("from the first row", verbs.search(table, false, 7), 1);
        Expect.same("the row of the index counts", verbs.search(table, false, 7), 1);
        Expect.same("the first such row", verbs.search(table, false, 3), 2);
        Expect.same("the index is there", verbs.search(table, false, 7), 3);
        Expect.same("the last row", verbs.search(table, false, 3), 5);
        Expect.same("it does not go round", verbs.search(table, false, 7), 0);
        Expect.same("the index is left", verbs.index(table, 1), 5);
        Expect.same("no such key", verbs.search(table, false, 4), 0);
        Expect.same("the index is left", verbs.index(table, 1), 1);
    }

    private static void promise21Binary() {
        TextVerbs verbs = new TextVerbs();
        int four = table(verbs, 5, 5, 5, 5);
        Expect.same("ahead of the middle", verbs.search(four, true, 5), 2);
        Expect.same("the index", verbs.index(four, 4), 2);
        Expect.same("whatever the index is", verbs.search(four, true, 5), 2);
        int six = table(verbs, 1, 3, 5, 7, 9, 11);
        for (int i = 1; i <= 6; i++) {
            Expect.same("row " + i, verbs.search(six, true, 2 * i - 1), i);
            Expect.same("between", verbs.search(six, true, 2 * i), 0);
            Expect.same("the index is left", verbs.index(six, i), i);
        }
        Expect.same("ahead of all", verbs.search(six, true, 0), 0);
        int pair = table(verbs, 3, 3);
        Expect.same("the first of two", verbs.search(pair, true, 3), 1);
        int mixed = table(verbs, 9, 1, 5, 5, 2, 5, 0);
        Expect.same("the middle one", verbs.search(mixed, true, 5), 4);
        Expect.same("ahead of it", verbs.search(mixed, true, 1), 2);
        Expect.same("not on its way", verbs.search(mixed, true, 9), 0);
        int wide = table(verbs, LEAST, 0, GREATEST);
        Expect.same("the least key", verbs.search(wide, true, LEAST), 1);
        Expect.same("the greatest key", verbs.search(wide, true, GREATEST), 3);
        int extreme = table(verbs, LEAST, GREATEST, GREATEST);
        Expect.same("no difference overflows", verbs.search(extreme, true, LEAST), 1);
        int single = table(verbs, 4);
        Expect.same("one row", verbs.search(single, true, 4), 1);
        Expect.same("one row, less", verbs.search(single, true, 3), 0);
        Expect.same("one row, greater", verbs.search(single, true, 5), 0);
    }

    private static void promise21Wrong() {
        TextVerbs verbs = new TextVerbs();
        verbs.table(1);
        Expect.badArgument("search in no table", () -> verbs.search(1, true, 0));
        Expect.badArgument("search in table -1", () -> verbs.search(-1, false, 0));
        Expect.badArgument("search in table 10", () -> verbs.search(10, false, 0));
        Expect.badArgument("sort of no table", () -> verbs.sort(1, true));
        Expect.badArgument("sort of table -1", () -> verbs.sort(-1, false));
    }

    private static void promise22Sort() {
        TextVerbs verbs = new TextVerbs();
        int table = table(verbs, 3, GREATEST, -1, 3, LEAST, 0);
        int other = table(verbs, 2, 1);
        verbs.index(table, 4);
        verbs.sort(table, false);
        holds("upwards", verbs, table, LEAST, -1, 0, 3, 3, GREATEST);
        verbs.sort(table, true);
        holds("down", verbs, table, GREATEST, 3, 3, 0, -1, LEAST);
        verbs.sort(table, true);
        holds("down again", verbs, table, GREATEST, 3, 3, 0, -1, LEAST);
        Expect.same("the index stays", verbs.index(table, 1), 4);
        holds("the other table stays", verbs, other, 2, 1);
        int single = table(verbs, 8);
        verbs.sort(single, true);
        holds("one row", verbs, single, 8);
        int full = verbs.table(60);
        for (int i = 1; i <= 60; i++) {
            verbs.row(full, i, i * 37 % 61);
        }
        verbs.sort(full, false);
        for (int i = 1; i <= 60; i++) {
            Expect.same("sixty rows, row " + i, verbs.row(full, i, 0), i);
        }
    }
}
