/** What the tests share: texts made from strings, answers compared with the ones that are due. */
final class Expect {
    interface Call {
        void run();
    }

    private static int wrong = 0;
    private static int looked = 0;
    private static String sentence = "";

    private Expect() {
    }

    /** What follows tests this sentence of the document; 0 for what stands ahead of all promises. */
    static void sentence(int promise, String words) {
        sentence = "promise " + promise + ", \"" + words + "\": ";
    }

    /** What follows tests this general rule of the document's "Terms". */
    static void rule(String words) {
        sentence = "Terms, \"" + words + "\": ";
    }

    static void same(String what, long got, long due) {
        looked++;
        if (got != due) {
            complain(what + " answered " + got + ", due is " + due);
        }
    }

    static void same(String what, String got, String due) {
        looked++;
        if (!got.equals(due)) {
            complain(what + " is \"" + got + "\", due is \"" + due + "\"");
        }
    }

    static void badArgument(String what, Call call) {
        same(what + " throws", thrownBy(call), "IllegalArgumentException");
    }

    static void badState(String what, Call call) {
        same(what + " throws", thrownBy(call), "IllegalStateException");
    }

    static String thrownBy(Call call) {
        try {
            call.run();
            return "nothing";
        } catch (RuntimeException e) {
            return e.getClass().getSimpleName();
        }
    }

    static void complain(String words) {
        wrong++;
        System.out.println(sentence + words);
    }

    static int text(TextVerbs verbs, String signs) {
        int number = verbs.text(signs.length());
        for (int i = 0; i < signs.length(); i++) {
            verbs.set(number, i, signs.charAt(i));
        }
        return number;
    }

    static void holds(String what, TextVerbs verbs, int text, String due) {
        same(what, read(verbs, text, due.length()), due);
        badArgument(what + ", place behind the last one", () -> verbs.at(text, due.length()));
    }

    static String read(TextVerbs verbs, int text, int size) {
        StringBuilder signs = new StringBuilder();
        for (int i = 0; i < size; i++) {
            signs.append((char) verbs.at(text, i));
        }
        return signs.toString();
    }

    static void end() {
        System.out.println(looked + " answers looked at, " + wrong + " not as due");
        if (wrong != 0 || looked == 0) {
            System.exit(1);
        }
    }
}
