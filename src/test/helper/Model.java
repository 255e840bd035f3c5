import java.util.ArrayList;
import java.util.Arrays;
import java.util.List;

/** The document's verbs once more, plainly over strings, to compare long runs of calls with. */
final class Model {
    private static final class Phrase {
        int kind;
        int from;
        int to = -1;
        int counter;
        Integer after;
        Integer before;
        boolean broken;
        int reach;
        boolean used;
    }

    private final List<String> texts = new ArrayList<>();
    private final List<int[]> tables = new ArrayList<>();
    private final List<Integer> indexes = new ArrayList<>();
    private final List<Phrase> phrases = new ArrayList<>();
    private final List<int[]> parts = new ArrayList<>();
    private final List<Integer> delimiters = new ArrayList<>();
    private final List<Boolean> alls = new ArrayList<>();
    private final List<Integer> receivers = new ArrayList<>();
    private final List<int[]> results = new ArrayList<>();
    private final int[] counters = new int[10];
    private Integer after;
    private Integer before;
    private int pointer;

    private static void demand(boolean holds) {
        if (!holds) {
            throw new IllegalArgumentException();
        }
    }

    private static void room(List<?> list, int most) {
        if (list.size() >= most) {
            throw new IllegalStateException();
        }
    }

    private String text(int number, boolean filled) {
        demand(number >= 0 && number < texts.size());
        demand(!filled || !texts.get(number).isEmpty());
        return texts.get(number);
    }

    int text(int size) {
        demand(size >= 0 && size <= 60);
        room(texts, 40);
        texts.add(" ".repeat(size));
        return texts.size() - 1;
    }

    int set(int text, int i, int c) {
        String old = text(text, false);
        demand(i >= 0 && i < old.length() && c >= 0 && c <= 255);
        texts.set(text, old.substring(0, i) + (char) c + old.substring(i + 1));
        return 0;
    }

    int at(int text, int i) {
        demand(i >= 0 && i < text(text, false).length());
        return texts.get(text).charAt(i);
    }

    int span(boolean isAfter, int of) {
        text(of, true);
        if (isAfter) {
            after = of;
        } else {
            before = of;
        }
        return 0;
    }

    int tally(int kind, int from, int counter) {
        demand(kind >= 0 && kind <= 2);
        demand(kind == 0 || !text(from, true).isEmpty());
        demand(counter >= 0 && counter <= 9);
        room(phrases, 20);
        return add(kind, from, -1, counter);
    }

    int replace(int kind, int from, int to) {
        demand(kind >= 0 && kind <= 3);
        int size = kind == 0 ? 1 : text(from, true).length();
        demand(text(to, false).length() == size);
        room(phrases, 20);
        return add(kind, from, to, -1);
    }

    private int add(int kind, int from, int to, int counter) {
        Phrase phrase = new Phrase();
        phrase.kind = kind;
        phrase.from = from;
        phrase.to = to;
        phrase.counter = counter;
        phrase.after = after;
        phrase.before = before;
        after = null;
        before = null;
        phrases.add(phrase);
        return phrases.size();
    }

    private static int[] region(String text, String behind, String ahead) {
        int begin = behind == null ? 0 : text.indexOf(behind);
        int end = ahead == null ? -1 : text.indexOf(ahead);
        if (begin < 0) {
            return new int[] {0, 0};
        }
        begin += behind == null ? 0 : behind.length();
        end = end < 0 ? text.length() : end;
        return end < begin ? new int[] {0, 0} : new int[] {begin, end};
    }

    private static String read(List<String> all, Integer number) {
        return number == null ? null : all.get(number);
    }

    int inspect(int text) {
        text(text, false);
        goOver(text, false);
        int acted = goOver(text, true);
        phrases.clear();
        return acted;
    }

    private int goOver(int text, boolean replacing) {
        List<String> then = new ArrayList<>(texts);
        String inspected = then.get(text);
        StringBuilder written = new StringBuilder();
        int acted = 0;
        while (written.length() < inspected.length()) {
            int place = written.length();
            String put = inspected.substring(place, place + 1);
            for (Phrase phrase : phrases) {
                if ((phrase.to >= 0) == replacing && matches(phrase, then, inspected, place)) {
                    int size = phrase.kind == 0 ? 1 : then.get(phrase.from).length();
                    put = replacing ? then.get(phrase.to) : inspected.substring(place, place + size);
                    phrase.used = true;
                    phrase.reach = place + size;
                    if (!replacing) {
                        counters[phrase.counter]++;
                    }
                    acted++;
                    break;
                }
            }
            written.append(put);
        }
        texts.set(text, written.toString());
        return acted;
    }

    private static boolean matches(Phrase phrase, List<String> then, String inspected, int place) {
        int[] bounds = region(inspected, read(then, phrase.after), read(then, phrase.before));
        String ahead = inspected.substring(0, bounds[1]);
        String sought = phrase.kind == 0 ? "" : then.get(phrase.from);
        boolean here = place >= bounds[0] && place < bounds[1] && ahead.startsWith(sought, place);
        switch (phrase.kind) {
            case 2:
                return here && place == (phrase.used ? phrase.reach : bounds[0]);
            case 3:
                return here && !phrase.used;
            default:
                return here;
        }
    }

    int convert(int text, int from, int to) {
        String old = text(text, false);
        String olds = text(from, false);
        String news = text(to, false);
        demand(olds.length() == news.length());
        int[] bounds = region(old, read(texts, after), read(texts, before));
        after = null;
        before = null;
        StringBuilder written = new StringBuilder(old);
        int count = 0;
        for (int place = bounds[0]; place < bounds[1]; place++) {
            int found = olds.indexOf(old.charAt(place));
            if (found >= 0) {
                written.setCharAt(place, news.charAt(found));
                count++;
            }
        }
        texts.set(text, written.toString());
        return count;
    }

    int counter(int k) {
        demand(k >= 0 && k <= 9);
        int count = counters[k];
        counters[k] = 0;
        return count;
    }

    int part(int from, int delimiter) {
        text(from, false);
        demand(delimiter == -1 || !text(delimiter, true).isEmpty());
        room(parts, 20);
        parts.add(new int[] {from, delimiter});
        return parts.size();
    }

    int join(int into, int start) {
        int size = text(into, false).length();
        pointer = start;
        List<int[]> taken = new ArrayList<>(parts);
        parts.clear();
        if (start < 1 || start > size) {
            return -1;
        }
        for (int[] part : taken) {
            int limit = part[1] == -1 ? -1 : texts.get(part[0]).indexOf(texts.get(part[1]));
            int length = limit < 0 ? texts.get(part[0]).length() : limit;
            for (int k = 0; k < length; k++) {
                if (pointer > size) {
                    return -1;
                }
                set(into, pointer - 1, texts.get(part[0]).charAt(k));
                pointer++;
            }
        }
        return pointer;
    }

    int delimiter(int text, boolean all) {
        text(text, true);
        room(delimiters, 8);
        delimiters.add(text);
        alls.add(all);
        return delimiters.size();
    }

    int receiver(int text) {
        text(text, false);
        room(receivers, 20);
        receivers.add(text);
        return receivers.size();
    }

    int split(int from, int start) {
        String source = text(from, false);
        List<String> then = new ArrayList<>(texts);
        results.clear();
        pointer = start;
        boolean fits = start >= 1 && start <= source.length();
        String rest = fits ? source.substring(start - 1) : "";
        for (int receiver : receivers) {
            if (!rest.isEmpty()) {
                rest = serve(rest, receiver, then);
            }
        }
        delimiters.clear();
        alls.clear();
        receivers.clear();
        if (fits) {
            pointer = source.length() - rest.length() + 1;
        }
        return fits && rest.isEmpty() ? pointer : -1;
    }

    private String serve(String rest, int receiver, List<String> then) {
        int size = then.get(receiver).length();
        int end = rest.length();
        int which = -1;
        for (int d = 0; d < delimiters.size(); d++) {
            int found = rest.indexOf(then.get(delimiters.get(d)));
            if (found >= 0 && found < end) {
                end = found;
                which = d;
            }
        }
        if (delimiters.isEmpty()) {
            end = Math.min(size, end);
        }
        texts.set(receiver, (rest.substring(0, end) + " ".repeat(size)).substring(0, size));
        results.add(new int[] {end, which});
        String left = rest.substring(end);
        if (which >= 0) {
            String limit = then.get(delimiters.get(which));
            do {
                left = left.substring(limit.length());
            } while (alls.get(which) && left.startsWith(limit));
        }
        return left;
    }

    int result(int i, int what) {
        return i < 0 || i >= results.size() || what < 0 || what > 1 ? -1 : results.get(i)[what];
    }

    int pointer() {
        return pointer;
    }

    int table(int rows) {
        demand(rows >= 1 && rows <= 60);
        room(tables, 10);
        tables.add(new int[rows]);
        indexes.add(1);
        return tables.size() - 1;
    }

    private int[] keys(int table) {
        demand(table >= 0 && table < tables.size());
        return tables.get(table);
    }

    int row(int table, int i, int key) {
        int[] keys = keys(table);
        demand(i >= 1 && i <= keys.length);
        int old = keys[i - 1];
        keys[i - 1] = key;
        return old;
    }

    int index(int table, int i) {
        demand(i >= 1 && i <= keys(table).length);
        return indexes.set(table, i);
    }

    int search(int table, boolean binary, int key) {
        int[] keys = keys(table);
        int found = binary ? middle(keys, 1, keys.length, key) : 0;
        for (int i = indexes.get(table); !binary && found == 0 && i <= keys.length; i++) {
            found = keys[i - 1] == key ? i : 0;
        }
        if (found != 0) {
            indexes.set(table, found);
        }
        return found;
    }

    private static int middle(int[] keys, int first, int last, int key) {
        int count = last - first + 1;
        if (count == 0) {
            return 0;
        }
        int row = count % 2 == 0 ? first + count / 2 - 1 : first + count / 2;
        if (keys[row - 1] == key) {
            return row;
        }
        return key < keys[row - 1] ? middle(keys, first, row - 1, key) : middle(keys, row + 1, last, key);
    }

    int sort(int table, boolean down) {
        int[] keys = keys(table);
        Arrays.sort(keys);
        for (int k = 0; down && k < keys.length / 2; k++) {
            int low = keys[k];
            keys[k] = keys[keys.length - 1 - k];
            keys[keys.length - 1 - k] = low;
        }
        return 0;
    }
}
