import java.util.Arrays;

/** The verbs of a business language that work on texts and tables; README.md says how to use them. */
public final class TextVerbs {
    public static final int NONE = -1;

    private static final int MOST_TEXTS = 40;
    private static final int MOST_SIGNS = 60;
    private static final int MOST_SIGN = 255;
    private static final int BLANK = 32;
    private static final int MOST_PHRASES = 20;
    private static final int COUNTERS = 10;
    private static final int MOST_PARTS = 20;
    private static final int MOST_DELIMITERS = 8;
    private static final int MOST_RECEIVERS = 20;
    private static final int MOST_TABLES = 10;
    private static final int MOST_ROWS = 60;

    private static final int CHARACTERS = 0;
    private static final int LEADING = 2;
    private static final int FIRST = 3;

    private final Text[] texts;
    private int textCount;
    private Text spanAfter;
    private Text spanBefore;
    private final Inspection inspection;
    private final Joining joining;
    private final Splitting splitting;
    private int latestPointer;
    private final Table[] tables;
    private int tableCount;

    public TextVerbs() {
        texts = new Text[MOST_TEXTS];
        inspection = new Inspection();
        joining = new Joining();
        splitting = new Splitting();
        tables = new Table[MOST_TABLES];
    }

    public int text(int size) throws IllegalArgumentException, IllegalStateException {
        if (size < 0 || size > MOST_SIGNS) {
            throw new IllegalArgumentException("a text has 0 to 60 signs");
        }
        if (textCount >= MOST_TEXTS) {
            throw new IllegalStateException("there are 40 texts");
        }
        texts[textCount] = new Text(size);
        textCount++;
        return textCount - 1;
    }

    public void set(int text, int i, int c) throws IllegalArgumentException {
        Text changed = textWithPlace(text, i);
        if (c < 0 || c > MOST_SIGN) {
            throw new IllegalArgumentException("a sign is 0 to 255");
        }
        changed.signs[i] = c;
    }

    public int at(int text, int i) throws IllegalArgumentException {
        return textWithPlace(text, i).signs[i];
    }

    public void span(boolean after, int of) throws IllegalArgumentException {
        Text bound = filledText(of);
        if (after) {
            spanAfter = bound;
        } else {
            spanBefore = bound;
        }
    }

    public int tally(int kind, int from, int counter) throws IllegalArgumentException, IllegalStateException {
        checkKind(kind, LEADING);
        Text sought = soughtText(kind, from);
        checkCounter(counter);
        checkRoomForPhrase();
        return inspection.collect(new Phrase(kind, sought, counter, null, takeRegion()));
    }

    public int replace(int kind, int from, int to) throws IllegalArgumentException, IllegalStateException {
        checkKind(kind, FIRST);
        Text sought = soughtText(kind, from);
        Text put = knownText(to);
        if (put.size() != widthOf(sought)) {
            throw new IllegalArgumentException("what is put is not of the size of what it replaces");
        }
        checkRoomForPhrase();
        return inspection.collect(new Phrase(kind, sought, NONE, put, takeRegion()));
    }

    public int inspect(int text) throws IllegalArgumentException {
        return inspection.goThrough(knownText(text));
    }

    public int convert(int text, int from, int to) throws IllegalArgumentException {
        Text converted = knownText(text);
        Text olds = knownText(from);
        Text news = knownText(to);
        if (olds.size() != news.size()) {
            throw new IllegalArgumentException("the two texts are not of one size");
        }
        return inspection.exchange(converted, takeRegion(), olds, news);
    }

    public int counter(int k) throws IllegalArgumentException {
        checkCounter(k);
        return inspection.takeCount(k);
    }

    public int part(int from, int delimiter) throws IllegalArgumentException, IllegalStateException {
        Text source = knownText(from);
        Text limit = delimiter == NONE ? null : filledText(delimiter);
        if (joining.partCount >= MOST_PARTS) {
            throw new IllegalStateException("there are 20 parts");
        }
        return joining.collect(new Part(source, limit));
    }

    public int join(int into, int pointer) throws IllegalArgumentException {
        boolean fits = joining.putInto(knownText(into), pointer);
        latestPointer = joining.endPointer;
        return fits ? latestPointer : NONE;
    }

    public int delimiter(int text, boolean all) throws IllegalArgumentException, IllegalStateException {
        Text limit = filledText(text);
        if (splitting.delimiterCount >= MOST_DELIMITERS) {
            throw new IllegalStateException("there are 8 delimiters");
        }
        return splitting.collectDelimiter(limit, all);
    }

    public int receiver(int text) throws IllegalArgumentException, IllegalStateException {
        Text taker = knownText(text);
        if (splitting.receiverCount >= MOST_RECEIVERS) {
            throw new IllegalStateException("there are 20 receivers");
        }
        return splitting.collectReceiver(taker);
    }

    public int split(int from, int pointer) throws IllegalArgumentException {
        boolean whole = splitting.takeApart(knownText(from), pointer);
        latestPointer = splitting.endPointer;
        return whole ? latestPointer : NONE;
    }

    public int result(int i, int what) {
        if (i < 0 || i >= splitting.servedCount) {
            return NONE;
        }
        switch (what) {
            case 0:
                return splitting.pieceSizes[i];
            case 1:
                return splitting.pieceDelimiters[i];
            default:
                return NONE;
        }
    }

    public int pointer() {
        return latestPointer;
    }

    public int table(int rows) throws IllegalArgumentException, IllegalStateException {
        if (rows < 1 || rows > MOST_ROWS) {
            throw new IllegalArgumentException("a table has 1 to 60 rows");
        }
        if (tableCount >= MOST_TABLES) {
            throw new IllegalStateException("there are 10 tables");
        }
        tables[tableCount] = new Table(rows);
        tableCount++;
        return tableCount - 1;
    }

    public int row(int table, int i, int key) throws IllegalArgumentException {
        Table changed = tableWithRow(table, i);
        int old = changed.keys[i - 1];
        changed.keys[i - 1] = key;
        return old;
    }

    public int index(int table, int i) throws IllegalArgumentException {
        Table changed = tableWithRow(table, i);
        int old = changed.current;
        changed.current = i;
        return old;
    }

    public int search(int table, boolean binary, int key) throws IllegalArgumentException {
        Table searched = knownTable(table);
        int found = binary ? searched.findByHalves(key) : searched.findInOrder(key);
        if (found != 0) {
            searched.current = found;
        }
        return found;
    }

    public void sort(int table, boolean down) throws IllegalArgumentException {
        knownTable(table).putInOrder(down);
    }

    private Text knownText(int number) {
        if (number < 0 || number >= textCount) {
            throw new IllegalArgumentException("there is no such text");
        }
        return texts[number];
    }

    private Text filledText(int number) {
        Text known = knownText(number);
        if (known.size() == 0) {
            throw new IllegalArgumentException("the text is empty");
        }
        return known;
    }

    private Text textWithPlace(int number, int place) {
        Text known = knownText(number);
        if (place < 0 || place >= known.size()) {
            throw new IllegalArgumentException("there is no such place");
        }
        return known;
    }

    /** Null for CHARACTERS, which match any sign: their text is not looked at. */
    private Text soughtText(int kind, int number) {
        return kind == CHARACTERS ? null : filledText(number);
    }

    private static int widthOf(Text sought) {
        return sought == null ? 1 : sought.size();
    }

    private static void checkKind(int kind, int last) {
        if (kind < CHARACTERS || kind > last) {
            throw new IllegalArgumentException("there is no such kind of phrase");
        }
    }

    private static void checkCounter(int k) {
        if (k < 0 || k >= COUNTERS) {
            throw new IllegalArgumentException("there is no such counter");
        }
    }

    private void checkRoomForPhrase() {
        if (inspection.phraseCount >= MOST_PHRASES) {
            throw new IllegalStateException("there are 20 phrases");
        }
    }

    private Region takeRegion() {
        Region region = new Region(spanAfter, spanBefore);
        spanAfter = null;
        spanBefore = null;
        return region;
    }

    private Table knownTable(int number) {
        if (number < 0 || number >= tableCount) {
            throw new IllegalArgumentException("there is no such table");
        }
        return tables[number];
    }

    private Table tableWithRow(int number, int i) {
        Table known = knownTable(number);
        if (i < 1 || i > known.keys.length) {
            throw new IllegalArgumentException("there is no such row");
        }
        return known;
    }

    private static final class Text {
        private final int[] signs;

        Text(int size) {
            signs = new int[size];
            Arrays.fill(signs, BLANK);
        }

        int size() {
            return signs.length;
        }

        boolean holds(Text sought, int place) {
            int width = sought.signs.length;
            if (place < 0 || width > signs.length - place) {
                return false;
            }
            for (int k = 0; k < width; k++) {
                if (signs[place + k] != sought.signs[k]) {
                    return false;
                }
            }
            return true;
        }

        int firstPlaceOf(Text sought) {
            for (int place = 0; place < signs.length; place++) {
                if (holds(sought, place)) {
                    return place;
                }
            }
            return NONE;
        }

        int firstPlaceOfSign(int sign) {
            for (int place = 0; place < signs.length; place++) {
                if (signs[place] == sign) {
                    return place;
                }
            }
            return NONE;
        }

        void copyTo(int[] line) {
            for (int k = 0; k < signs.length && k < line.length; k++) {
                line[k] = signs[k];
            }
        }

        /** Blanks stand behind what is shorter than the text; what is longer is cut. */
        void fillFrom(int[] line, int begin, int length) {
            for (int k = 0; k < signs.length; k++) {
                signs[k] = k < length ? line[begin + k] : BLANK;
            }
        }
    }

    /** Where a phrase may match: its bounds are looked for anew in each text, for the texts may have changed. */
    private static final class Region {
        private final Text after;
        private final Text before;

        Region(Text after, Text before) {
            this.after = after;
            this.before = before;
        }

        int beginIn(Text inspected) {
            if (after == null) {
                return 0;
            }
            int place = inspected.firstPlaceOf(after);
            return place == NONE ? inspected.size() : place + after.size();
        }

        /** May lie ahead of the beginning: then nothing is in the region. */
        int endIn(Text inspected) {
            int place = before == null ? NONE : inspected.firstPlaceOf(before);
            return place == NONE ? inspected.size() : place;
        }
    }

    private static final class Phrase {
        private final int kind;
        private final Text sought;
        private final int counterNumber;
        private final Text put;
        private final Region region;
        private final int width;
        private int begin;
        private int end;
        private int leadingPlace;
        private boolean spent;

        /** Sought is null for CHARACTERS; put is null for a tallying phrase. */
        Phrase(int kind, Text sought, int counterNumber, Text put, Region region) {
            this.kind = kind;
            this.sought = sought;
            this.counterNumber = counterNumber;
            this.put = put;
            this.region = region;
            this.width = widthOf(sought);
        }

        boolean isReplacing() {
            return put != null;
        }

        void startIn(Text inspected) {
            begin = region.beginIn(inspected);
            end = region.endIn(inspected);
            leadingPlace = begin;
        }

        boolean matches(Text inspected, int place) {
            if (place < begin || place + width > end) {
                return false;
            }
            if (kind == LEADING && place != leadingPlace) {
                return false;
            }
            if (kind == FIRST && spent) {
                return false;
            }
            return sought == null || inspected.holds(sought, place);
        }

        void noteMatch(int place) {
            leadingPlace = place + width;
            spent = true;
        }
    }

    private static final class Inspection {
        private final Phrase[] phrases = new Phrase[MOST_PHRASES];
        private int phraseCount;
        private final int[] counters = new int[COUNTERS];
        /**
         * Changes are made here and shown in the text at the end, because the text that is inspected
         * may be a phrase's text too, which must stay as it was at the beginning.
         */
        private final int[] line = new int[MOST_SIGNS];

        int collect(Phrase phrase) {
            phrases[phraseCount] = phrase;
            phraseCount++;
            return phraseCount;
        }

        int takeCount(int k) {
            int count = counters[k];
            counters[k] = 0;
            return count;
        }

        int goThrough(Text inspected) {
            inspected.copyTo(line);
            goOver(inspected, false);
            int replaced = goOver(inspected, true);
            inspected.fillFrom(line, 0, inspected.size());
            phraseCount = 0;
            return replaced;
        }

        /** Answers how many times a phrase acted. */
        private int goOver(Text inspected, boolean replacing) {
            for (int k = 0; k < phraseCount; k++) {
                phrases[k].startIn(inspected);
            }
            int acted = 0;
            int next = 0;
            for (int place = 0; place < inspected.size(); place++) {
                Phrase phrase = place < next ? null : firstMatch(inspected, place, replacing);
                if (phrase != null) {
                    phrase.noteMatch(place);
                    act(phrase, place);
                    acted++;
                    next = place + phrase.width;
                }
            }
            return acted;
        }

        private Phrase firstMatch(Text inspected, int place, boolean replacing) {
            for (int k = 0; k < phraseCount; k++) {
                Phrase phrase = phrases[k];
                if (phrase.isReplacing() == replacing && phrase.matches(inspected, place)) {
                    return phrase;
                }
            }
            return null;
        }

        private void act(Phrase phrase, int place) {
            if (phrase.put == null) {
                counters[phrase.counterNumber]++;
                return;
            }
            for (int k = 0; k < phrase.width; k++) {
                line[place + k] = phrase.put.signs[k];
            }
        }

        int exchange(Text converted, Region region, Text olds, Text news) {
            converted.copyTo(line);
            int begin = region.beginIn(converted);
            int end = region.endIn(converted);
            int exchanged = 0;
            for (int place = begin; place < end; place++) {
                int found = olds.firstPlaceOfSign(converted.signs[place]);
                if (found != NONE) {
                    line[place] = news.signs[found];
                    exchanged++;
                }
            }
            converted.fillFrom(line, 0, converted.size());
            return exchanged;
        }
    }

    private static final class Part {
        private final Text source;
        private final Text limit;

        /** Limit is null when all of the source is meant. */
        Part(Text source, Text limit) {
            this.source = source;
            this.limit = limit;
        }

        int length() {
            int place = limit == null ? NONE : source.firstPlaceOf(limit);
            return place == NONE ? source.size() : place;
        }
    }

    private static final class Joining {
        private final Part[] parts = new Part[MOST_PARTS];
        private int partCount;
        private int endPointer;

        int collect(Part part) {
            parts[partCount] = part;
            partCount++;
            return partCount;
        }

        /** Answers whether all had a place. */
        boolean putInto(Text into, int start) {
            int count = partCount;
            partCount = 0;
            endPointer = start;
            if (start < 1 || start > into.size()) {
                return false;
            }
            for (int k = 0; k < count; k++) {
                if (!putPart(parts[k], into)) {
                    return false;
                }
            }
            return true;
        }

        /** The source may be the text that is written: each sign is read only when it is put. */
        private boolean putPart(Part part, Text into) {
            int length = part.length();
            for (int k = 0; k < length; k++) {
                if (endPointer > into.size()) {
                    return false;
                }
                into.signs[endPointer - 1] = part.source.signs[k];
                endPointer++;
            }
            return true;
        }
    }

    private static final class Splitting {
        private final Text[] delimiters = new Text[MOST_DELIMITERS];
        private final boolean[] repeated = new boolean[MOST_DELIMITERS];
        private int delimiterCount;
        private final Text[] receivers = new Text[MOST_RECEIVERS];
        private int receiverCount;
        private final int[] pieceBegins = new int[MOST_RECEIVERS];
        private final int[] pieceSizes = new int[MOST_RECEIVERS];
        private final int[] pieceDelimiters = new int[MOST_RECEIVERS];
        private int servedCount;
        private int endPointer;
        private final int[] line = new int[MOST_SIGNS];

        int collectDelimiter(Text limit, boolean all) {
            delimiters[delimiterCount] = limit;
            repeated[delimiterCount] = all;
            delimiterCount++;
            return delimiterCount;
        }

        int collectReceiver(Text taker) {
            receivers[receiverCount] = taker;
            receiverCount++;
            return receiverCount;
        }

        /** Answers whether nothing was left. */
        boolean takeApart(Text from, int start) {
            servedCount = 0;
            endPointer = start;
            boolean whole = false;
            if (start >= 1 && start <= from.size()) {
                cutPieces(from);
                handOut(from);
                whole = endPointer > from.size();
            }
            delimiterCount = 0;
            receiverCount = 0;
            return whole;
        }

        /** All is cut before any of it is moved, because a receiver may be the source or a delimiter. */
        private void cutPieces(Text from) {
            int place = endPointer - 1;
            for (int k = 0; k < receiverCount && place < from.size(); k++) {
                place = delimiterCount == 0 ? cutBySize(from, place, k) : cutByDelimiter(from, place, k);
                servedCount = k + 1;
            }
            endPointer = place + 1;
        }

        /** Answers the place behind the piece. */
        private int cutBySize(Text from, int place, int k) {
            int size = Math.min(receivers[k].size(), from.size() - place);
            keepPiece(k, place, size, NONE);
            return place + size;
        }

        /** Answers the place behind the delimiter that ends the piece. */
        private int cutByDelimiter(Text from, int place, int k) {
            for (int end = place; end < from.size(); end++) {
                int found = delimiterAt(from, end);
                if (found != NONE) {
                    keepPiece(k, place, end - place, found);
                    return placeBehind(from, end, found);
                }
            }
            keepPiece(k, place, from.size() - place, NONE);
            return from.size();
        }

        private void keepPiece(int k, int begin, int size, int found) {
            pieceBegins[k] = begin;
            pieceSizes[k] = size;
            pieceDelimiters[k] = found;
        }

        private int delimiterAt(Text from, int place) {
            for (int k = 0; k < delimiterCount; k++) {
                if (from.holds(delimiters[k], place)) {
                    return k;
                }
            }
            return NONE;
        }

        private int placeBehind(Text from, int place, int found) {
            Text limit = delimiters[found];
            int behind = place + limit.size();
            if (repeated[found]) {
                for (int k = 0; k < from.size() && from.holds(limit, behind); k++) {
                    behind += limit.size();
                }
            }
            return behind;
        }

        private void handOut(Text from) {
            from.copyTo(line);
            for (int k = 0; k < servedCount; k++) {
                receivers[k].fillFrom(line, pieceBegins[k], pieceSizes[k]);
            }
        }
    }

    private static final class Table {
        private final int[] keys;
        private int current = 1;

        Table(int rows) {
            keys = new int[rows];
        }

        /** Answers a row from 1 on, or 0. */
        int findInOrder(int key) {
            for (int place = current - 1; place < keys.length; place++) {
                if (keys[place] == key) {
                    return place + 1;
                }
            }
            return 0;
        }

        /** Answers a row from 1 on, or 0. */
        int findByHalves(int key) {
            int low = 0;
            int high = keys.length - 1;
            for (int looks = 0; looks < keys.length && low <= high; looks++) {
                int middle = (low + high) / 2;
                if (key == keys[middle]) {
                    return middle + 1;
                }
                if (key < keys[middle]) {
                    high = middle - 1;
                } else {
                    low = middle + 1;
                }
            }
            return 0;
        }

        void putInOrder(boolean down) {
            for (int place = 1; place < keys.length; place++) {
                int key = keys[place];
                int hole = place;
                while (hole > 0 && isAhead(key, keys[hole - 1], down)) {
                    keys[hole] = keys[hole - 1];
                    hole--;
                }
                keys[hole] = key;
            }
        }

        private static boolean isAhead(int key, int other, boolean down) {
            return down ? key > other : key < other;
        }
    }
}
