/**
 * Files of pages: objects found by tables that lead back to older tables, read, followed, decoded,
 * changed, and written behind what was there before.
 *
 * <p>All rows are made with the object and used again: no call makes an object or an array.
 */
public final class PaperFile {
    public static final int REFUSED = -1, NONE = -2, FULL = -3, BROKEN = -4;

    private static final int NULL = 0, TRUE = 1, FALSE = 2, INT = 3, NAME = 4, STRING = 5,
            ARRAY = 6, DICT = 7, REF = 8, STREAM = 9;

    private static final int OBJECTS = 300;
    private static final int GENERATIONS = 65536;
    private static final int MOST_PARTS = 900;
    private static final int MOST_ITEMS = 60;
    private static final int MOST_NAMES = 30;
    private static final int MOST_DEEP = 8;
    private static final int MOST_STRING = 100;
    private static final int MOST_NAME = 20;
    private static final int MOST_TABLES = 6;
    private static final int MOST_TAPE = 4000;
    private static final int MOST_POURED = 4000;
    private static final int MOST_DECODED = 3000;
    private static final int MOST_SAVED = 6000;
    private static final int FED = 20;
    private static final int ENTRY = 20;
    private static final int SPACE = 32;
    private static final int LINE = 10;
    private static final int RETURN = 13;

    private static final String DELIMITERS = "()<>[]/";
    private static final String SMALL_DIGITS = "0123456789abcdef";
    private static final String BEGIN = "%PDF-1.";
    private static final String LAST_WORD = "startxref";
    private static final String LAST_LINE = "%%EOF";

    /** A poured stream's only name, which no TAPE brings, stands before all that was fed. */
    private static final String LENGTH = "Length";
    private static final int LENGTH_AT = 0;
    private static final int FED_AT = 8;

    /** 512 calls feed no more than this. */
    private static final int TEXT_ROOM = FED_AT + 512 * FED;

    /**
     * Each part begins with a byte of its own, so no text has more parts than bytes. Most are kept
     * at once while a text is opened: the objects and the trailer of the file that there is, the
     * latest trailer of the text, and an older one, or the objects, whose 901st part is a fault.
     */
    private static final int PART_ROOM = MOST_PARTS + 3 * MOST_TAPE;

    private final Text text = new Text();
    private final Parts parts = new Parts(text);
    private final Reader reader = new Reader(text, parts);
    private final Opener opener = new Opener(text, parts, reader);
    private final Writer writer = new Writer(text, parts);
    private final Decoder decoder = new Decoder(text, parts);
    private final PageWalk walk = new PageWalk(parts);
    private Book book = new Book(parts);
    private Book otherBook = new Book(parts);
    private Pail out = new Pail(MOST_SAVED);
    private Pail otherOut = new Pail(MOST_SAVED);

    /** The part that is THE POINT, -1 for none. */
    private int point = -1;

    public PaperFile() {
    }

    public int feed(int a, int b, int c, int d, int e) {
        if (text.tapeSize() + FED > MOST_TAPE || !text.hasRoom(FED)) {
            return FULL;
        }
        text.addFour(a);
        text.addFour(b);
        text.addFour(c);
        text.addFour(d);
        text.addFour(e);
        return text.tapeSize();
    }

    public int end(int n) {
        if (n < 0 || n > text.tapeSize()) {
            return REFUSED;
        }
        text.cutTape(n);
        return n;
    }

    public int open() {
        int first = parts.top;
        int fault = opener.tablesFault(otherBook);
        if (fault == 0 && !opener.objectsStand()) {
            fault = 5;
        }
        if (fault != 0) {
            parts.top = first;
            text.dropTape();
            return fault;
        }
        Book opened = otherBook;
        otherBook = book;
        book = opened;
        parts.cut(0, first);
        book.closeGap(0, first);
        text.keepTape();
        point = -1;
        return 0;
    }

    public int go(int n) {
        return pointAt(book.isUsed(n) ? book.root[n] : -1);
    }

    public int trailer() {
        return pointAt(book.isOpen() ? book.trailer : -1);
    }

    public int item(int k) {
        return pointAt(parts.itemAt(point, k));
    }

    public int find() {
        int found = parts.namedByTape(point);
        text.dropTape();
        return pointAt(found);
    }

    public int follow() {
        int n = book.leadsTo(point);
        return pointAt(n < 0 ? -1 : book.root[n]);
    }

    public int look(int what) {
        if (what < 0 || what > 2) {
            return REFUSED;
        }
        if (point < 0) {
            return NONE;
        }
        if (what == 0) {
            return parts.kind[point];
        }
        return what == 1 ? parts.measure(point) : parts.secondMeasure(point);
    }

    public int bytes(int k) {
        if (point < 0) {
            return NONE;
        }
        int kind = parts.kind[point];
        if (kind == STRING) {
            out.start(MOST_SAVED);
            out.addString(text, parts.one[point], parts.two[point], false);
            return out.size;
        }
        if (kind == NAME || kind == STREAM && k < 0) {
            return outBecomes(parts.one[point], parts.two[point]);
        }
        int named = kind == ARRAY ? -1 : parts.itemAt(point, k);
        if (named < 0) {
            return NONE;
        }
        int name = parts.name[named];
        return outBecomes(name, text.afterWord(name) - name);
    }

    public int decode() {
        if (point < 0 || parts.kind[point] != STREAM) {
            return NONE;
        }
        if (!decoder.run(point)) {
            return BROKEN;
        }
        out.start(MOST_SAVED);
        out.addRow(decoder.source, decoder.from, decoder.to - decoder.from);
        return out.size;
    }

    public int octet(int i) {
        if (i == -1) {
            return out.size;
        }
        return i >= 0 && i < out.size ? out.row[i] & 255 : NONE;
    }

    public int put(int n) {
        int part = parts.top;
        int answer = whyNot(n);
        if (answer == 0) {
            int behind = text.afterWhite(reader.read(text.afterWhite(text.from), 1));
            answer = behind == text.to ? 0 : BROKEN;
        }
        if (answer == 0 && book.partsBut(n) + parts.top - part > MOST_PARTS) {
            answer = FULL;
        }
        return answer == 0 ? change(n, part, false) : refuse(part, answer);
    }

    public int pour(int n) {
        int part = parts.top;
        int size = text.tapeSize();
        int answer = whyNot(n);
        if (answer == 0 && (book.pouredBut(n) + size > MOST_POURED
                || !parts.addPoured(text.from, size)
                || book.partsBut(n) + parts.top - part > MOST_PARTS)) {
            answer = FULL;
        }
        return answer == 0 ? change(n, part, true) : refuse(part, answer);
    }

    public int free(int n) {
        if (!book.isUsed(n)) {
            return NONE;
        }
        book.release(n);
        point = -1;
        return book.marked(book.used);
    }

    public int save() {
        if (!book.isOpen()) {
            return NONE;
        }
        otherOut.start(MOST_SAVED);
        writer.writeFile(book, otherOut);
        if (otherOut.over) {
            return FULL;
        }
        Pail saved = otherOut;
        otherOut = out;
        out = saved;
        return out.size;
    }

    public int pages() {
        if (!book.isOpen()) {
            return NONE;
        }
        return walk.through(book) ? walk.found : BROKEN;
    }

    public int page(int k) {
        if (!book.isOpen() || !walk.through(book)) {
            return NONE;
        }
        return k >= 0 && k < walk.found ? walk.numbers[k] : NONE;
    }

    public int count(int what) {
        switch (what) {
            case 0: return book.size;
            case 1: return book.marked(book.used);
            case 2: return book.tables;
            case 3: return book.marked(book.changed);
            case 4: return book.to - book.from;
            case 5: return book.partsBut(-1);
            default: return REFUSED;
        }
    }

    public int state(int n, int what) {
        if (what < 0 || what > 2) {
            return REFUSED;
        }
        if (n < 0 || n >= book.size) {
            return NONE;
        }
        if (what == 1) {
            return book.generation[n];
        }
        boolean holds = what == 0 ? book.used[n] : book.changed[n];
        return holds ? 1 : 0;
    }

    /** THE POINT stays where it is if there is no such part. */
    private int pointAt(int part) {
        if (part < 0) {
            return NONE;
        }
        point = part;
        return parts.kind[part];
    }

    private int outBecomes(int from, int size) {
        out.start(MOST_SAVED);
        out.addRow(text.row, from, size);
        return out.size;
    }

    /** What put and pour answer before they look at the TAPE; 0 if they may go on. */
    private int whyNot(int n) {
        if (!book.isOpen()) {
            return NONE;
        }
        return n < 0 || n > book.size || n >= OBJECTS ? REFUSED : 0;
    }

    private int change(int n, int part, boolean poured) {
        book.take(n, part, poured);
        text.keepTape();
        point = -1;
        return book.size;
    }

    private int refuse(int part, int answer) {
        parts.top = part;
        text.dropTape();
        return answer;
    }

    /**
     * All bytes that were fed and may be needed again, in the order in which they came; the last
     * of them are the TAPE. Where a place is asked for, -1 means that there is none, and behind
     * -1 there is nothing: so a chain of steps fails as a whole.
     */
    private static final class Text {
        final byte[] row = new byte[TEXT_ROOM];
        private final boolean[] regular = new boolean[256];
        /** The TAPE's first byte, and the place behind its last. */
        int from;
        int to;

        Text() {
            for (int b = 33; b < 127; b++) {
                regular[b] = DELIMITERS.indexOf((char) b) < 0;
            }
            for (int i = 0; i < LENGTH.length(); i++) {
                row[LENGTH_AT + i] = (byte) LENGTH.charAt(i);
            }
            from = FED_AT;
            to = FED_AT;
        }

        int tapeSize() {
            return to - from;
        }

        boolean hasRoom(int more) {
            return row.length - to >= more;
        }

        void addFour(int four) {
            for (int shift = 24; shift >= 0 && to < row.length; shift -= 8) {
                row[to] = (byte) (four >> shift);
                to++;
            }
        }

        void cutTape(int n) {
            to = from + n;
        }

        void dropTape() {
            to = from;
        }

        void keepTape() {
            from = to;
        }

        int byteAt(int i) {
            return i >= 0 && i < to ? row[i] & 255 : -1;
        }

        int afterByte(int i, int b) {
            return byteAt(i) == b ? i + 1 : -1;
        }

        int afterWhite(int i) {
            int at = i;
            while (at >= 0 && at < to && (row[at] == SPACE || row[at] == LINE || row[at] == RETURN)) {
                at++;
            }
            return at;
        }

        int afterWord(int i) {
            int at = i;
            while (at >= 0 && at < to && regular[row[at] & 255]) {
                at++;
            }
            return at > i ? at : -1;
        }

        int afterText(int i, String wanted) {
            int size = wanted.length();
            if (i < 0 || size > to - i) {
                return -1;
            }
            for (int k = 0; k < size; k++) {
                if (row[i + k] != wanted.charAt(k)) {
                    return -1;
                }
            }
            return i + size;
        }

        /** Behind this WORD; -1 if another one, or a longer one, stands there. */
        int afterThe(int i, String word) {
            int behind = afterText(i, word);
            return behind >= 0 && behind < to && regular[row[behind] & 255] ? -1 : behind;
        }

        int afterName(int i) {
            int behind = byteAt(i) == '/' ? afterWord(i + 1) : -1;
            return behind - i - 1 <= MOST_NAME ? behind : -1;
        }

        /** The WORD at i as a number without a sign; -1 if it is none. */
        int number(int i) {
            int at = i;
            int value = 0;
            while (at >= 0 && at < to && at - i < 9 && row[at] >= '0' && row[at] <= '9') {
                value = 10 * value + row[at] - '0';
                at++;
            }
            boolean more = at >= 0 && at < to && regular[row[at] & 255];
            return at > i && !more ? value : -1;
        }

        /** So many digits at i, whatever is behind them; -1 if they are not there. */
        long digits(int i, int size) {
            long value = 0;
            for (int k = 0; k < size; k++) {
                int b = byteAt(i + k);
                if (b < '0' || b > '9') {
                    return -1;
                }
                value = 10 * value + b - '0';
            }
            return value;
        }

        /** The byte that stands at i as two digits of base 16; -1 if they are not there. */
        int pair(int i) {
            int high = hexDigit(byteAt(i));
            int low = hexDigit(byteAt(i + 1));
            return high < 0 || low < 0 ? -1 : 16 * high + low;
        }

        private int octal(int i) {
            int value = 0;
            for (int k = 0; k < 3; k++) {
                int b = byteAt(i + k);
                if (b < '0' || b > '7') {
                    return -1;
                }
                value = 8 * value + b - '0';
            }
            return value <= 255 ? value : -1;
        }

        /** How many bytes stand for the next one of a string in ( ); 0 if none may stand there. */
        int signSize(int i) {
            int b = byteAt(i);
            if (b != '\\') {
                return b < 0 || b == '(' || b == ')' ? 0 : 1;
            }
            int next = byteAt(i + 1);
            if (next == '(' || next == ')' || next == '\\') {
                return 2;
            }
            return octal(i + 1) < 0 ? 0 : 4;
        }

        int sign(int i, int size) {
            return size == 4 ? octal(i + 1) : byteAt(i + size - 1);
        }

        boolean sameWord(int i, int j) {
            int size = afterWord(i) - i;
            if (i < 0 || j < 0 || size < 0 || size != afterWord(j) - j) {
                return false;
            }
            for (int k = 0; k < size; k++) {
                if (row[i + k] != row[j + k]) {
                    return false;
                }
            }
            return true;
        }

        boolean tapeIsWord(int i) {
            return tapeSize() > 0 && afterWord(from) == to && sameWord(i, from);
        }
    }

    private static int hexDigit(int b) {
        if (b >= '0' && b <= '9') {
            return b - '0';
        }
        if (b >= 'a' && b <= 'f') {
            return b - 'a' + 10;
        }
        return b >= 'A' && b <= 'F' ? b - 'A' + 10 : -1;
    }

    /**
     * The parts of all values, each directly before those that lie in it, so that a value is a
     * run of parts and may be moved as one.
     */
    private static final class Parts {
        final int[] kind = new int[PART_ROOM];
        /** An INT, a REF's number, or where the bytes of a NAME, STRING or STREAM begin. */
        final int[] one = new int[PART_ROOM];
        /** A REF's generation, or how many bytes a NAME, STRING or STREAM has. */
        final int[] two = new int[PART_ROOM];
        /** How many parts it is with those that lie in it. */
        final int[] span = new int[PART_ROOM];
        /** Where its name stands, behind the /; -1 if it is not in a DICT. */
        final int[] name = new int[PART_ROOM];
        int top;
        private final Text text;

        Parts(Text text) {
            this.text = text;
        }

        /** The new part; -1 if there is no room for it. */
        int add(int itsKind, int first, int second) {
            if (top >= PART_ROOM) {
                return -1;
            }
            kind[top] = itsKind;
            one[top] = first;
            two[top] = second;
            span[top] = 1;
            name[top] = -1;
            top++;
            return top - 1;
        }

        boolean addPoured(int data, int size) {
            int stream = add(STREAM, data, size);
            int length = add(INT, size, 0);
            if (stream < 0 || length < 0) {
                return false;
            }
            name[length] = LENGTH_AT;
            close(stream);
            return true;
        }

        /** What was added since then lies in it. */
        void close(int part) {
            span[part] = top - part;
        }

        /** Never the part itself, so that a walk from part to part comes to an end. */
        int behind(int part) {
            return part + Math.max(1, span[part]);
        }

        int itemAt(int part, int k) {
            if (part < 0) {
                return -1;
            }
            int left = k;
            for (int at = part + 1; at < behind(part); at = behind(at)) {
                if (left == 0) {
                    return at;
                }
                left--;
            }
            return -1;
        }

        int items(int part) {
            int found = 0;
            for (int at = part + 1; at < behind(part); at = behind(at)) {
                found++;
            }
            return found;
        }

        int named(int part, String wanted) {
            if (part < 0) {
                return -1;
            }
            for (int at = part + 1; at < behind(part); at = behind(at)) {
                if (text.afterThe(name[at], wanted) >= 0) {
                    return at;
                }
            }
            return -1;
        }

        boolean isName(int part, String wanted) {
            return part >= 0 && kind[part] == NAME && two[part] == wanted.length()
                    && text.afterText(one[part], wanted) >= 0;
        }

        int namedByTape(int part) {
            if (part < 0) {
                return -1;
            }
            for (int at = part + 1; at < behind(part); at = behind(at)) {
                if (text.tapeIsWord(name[at])) {
                    return at;
                }
            }
            return -1;
        }

        /** Of a DICT that is still being read: all that was added since lies in it. */
        boolean hasNameOf(int dict, int place) {
            for (int at = dict + 1; at < top; at = behind(at)) {
                if (text.sameWord(name[at], place)) {
                    return true;
                }
            }
            return false;
        }

        int measure(int part) {
            switch (kind[part]) {
                case INT:
                case REF:
                    return one[part];
                case NAME:
                case STRING:
                case STREAM:
                    return two[part];
                default:
                    return items(part);
            }
        }

        int secondMeasure(int part) {
            if (kind[part] == REF) {
                return two[part];
            }
            return kind[part] == STREAM ? items(part) : 0;
        }

        void cut(int from, int size) {
            int behind = from + size;
            int rest = top - behind;
            if (from < 0 || size <= 0 || rest < 0) {
                return;
            }
            System.arraycopy(kind, behind, kind, from, rest);
            System.arraycopy(one, behind, one, from, rest);
            System.arraycopy(two, behind, two, from, rest);
            System.arraycopy(span, behind, span, from, rest);
            System.arraycopy(name, behind, name, from, rest);
            top -= size;
        }
    }

    /** Reads OBJECTS of the text into parts. Each method answers the place behind, or -1. */
    private static final class Reader {
        private final Text text;
        private final Parts parts;

        Reader(Text text, Parts parts) {
            this.text = text;
            this.parts = parts;
        }

        private int read(int i, int deep) {
            switch (text.byteAt(i)) {
                case '[': return readArray(i, deep);
                case '(': return readString(i);
                case '<': return text.byteAt(i + 1) == '<' ? readDict(i, deep) : readPairs(i);
                case '/': return readName(i);
                default: return readWord(i);
            }
        }

        private int readArray(int i, int deep) {
            int array = parts.add(ARRAY, 0, 0);
            int at = array < 0 || deep > MOST_DEEP ? -1 : text.afterWhite(i + 1);
            for (int k = 0; k <= MOST_ITEMS && at >= 0; k++) {
                if (text.byteAt(at) == ']') {
                    parts.close(array);
                    return at + 1;
                }
                at = text.afterWhite(read(at, deep + 1));
            }
            return -1;
        }

        private int readDict(int i, int deep) {
            int dict = parts.add(DICT, 0, 0);
            int at = dict < 0 || deep > MOST_DEEP ? -1 : text.afterWhite(i + 2);
            for (int k = 0; k <= MOST_NAMES && at >= 0; k++) {
                if (text.byteAt(at) == '>') {
                    parts.close(dict);
                    return text.afterText(at, ">>");
                }
                boolean twice = parts.hasNameOf(dict, at + 1);
                at = twice ? -1 : text.afterWhite(readNamed(at, deep));
            }
            return -1;
        }

        private int readNamed(int i, int deep) {
            int value = parts.top;
            int behind = read(text.afterWhite(text.afterName(i)), deep + 1);
            if (behind >= 0) {
                parts.name[value] = i + 1;
            }
            return behind;
        }

        private int readString(int i) {
            int at = i + 1;
            for (int k = 0; k <= MOST_STRING; k++) {
                if (text.byteAt(at) == ')') {
                    return added(STRING, i, k, at + 1);
                }
                int size = text.signSize(at);
                if (size == 0) {
                    return -1;
                }
                at += size;
            }
            return -1;
        }

        private int readPairs(int i) {
            int at = i + 1;
            for (int k = 0; k <= MOST_STRING; k++) {
                if (text.byteAt(at) == '>') {
                    return added(STRING, i, k, at + 1);
                }
                if (text.pair(at) < 0) {
                    return -1;
                }
                at += 2;
            }
            return -1;
        }

        private int readName(int i) {
            int behind = text.afterName(i);
            return behind < 0 ? -1 : added(NAME, i + 1, behind - i - 1, behind);
        }

        private int readWord(int i) {
            boolean minus = text.byteAt(i) == '-';
            int number = text.number(minus ? i + 1 : i);
            if (number < 0) {
                return readConstant(i);
            }
            int behind = text.afterWord(i);
            int behindRef = minus ? -1 : readRef(number, behind);
            if (behindRef >= 0) {
                return behindRef;
            }
            return added(INT, minus ? -number : number, 0, behind);
        }

        /** A number has been read up to i; -1 if no REF begins with it. */
        private int readRef(int number, int i) {
            int second = text.afterWhite(i);
            int generation = text.number(second);
            int behind = text.afterThe(text.afterWhite(text.afterWord(second)), "R");
            if (number >= OBJECTS || generation < 0 || generation >= GENERATIONS || behind < 0) {
                return -1;
            }
            return added(REF, number, generation, behind);
        }

        private int readConstant(int i) {
            int behind = text.afterThe(i, "null");
            if (behind >= 0) {
                return added(NULL, 0, 0, behind);
            }
            behind = text.afterThe(i, "true");
            if (behind >= 0) {
                return added(TRUE, 0, 0, behind);
            }
            behind = text.afterThe(i, "false");
            return behind < 0 ? -1 : added(FALSE, 0, 0, behind);
        }

        private int added(int kind, int one, int two, int behind) {
            return parts.add(kind, one, two) < 0 ? -1 : behind;
        }
    }

    /** What is known of a file and its objects, with the changes since it was opened. */
    private static final class Book {
        /** Of each number: the first part of its value, if it is in use. */
        final int[] root = new int[OBJECTS];
        final int[] generation = new int[OBJECTS];
        final boolean[] used = new boolean[OBJECTS];
        final boolean[] changed = new boolean[OBJECTS];
        final boolean[] poured = new boolean[OBJECTS];
        /** SIZE; 0 without a file. */
        int size;
        int tables;
        /** The place of the latest table, and the part that is its trailer. */
        int latest;
        int trailer;
        /** Where its bytes stand in the text. */
        int from;
        int to;
        private final Parts parts;

        Book(Parts parts) {
            this.parts = parts;
        }

        void empty(int first, int behind) {
            for (int n = 0; n < OBJECTS; n++) {
                generation[n] = 0;
                used[n] = false;
                changed[n] = false;
                poured[n] = false;
            }
            size = 0;
            tables = 0;
            from = first;
            to = behind;
        }

        boolean isOpen() {
            return size > 0;
        }

        boolean isUsed(int n) {
            return n >= 0 && n < size && used[n];
        }

        /** The number of the object that this part, if it is a REF, leads to; -1 for none. */
        int leadsTo(int part) {
            if (part < 0 || parts.kind[part] != REF) {
                return -1;
            }
            int n = parts.one[part];
            return isUsed(n) && generation[n] == parts.two[part] ? n : -1;
        }

        int marked(boolean[] marks) {
            int found = 0;
            for (int n = 0; n < size; n++) {
                found += marks[n] ? 1 : 0;
            }
            return found;
        }

        int partsBut(int one) {
            int found = 0;
            for (int n = 0; n < size; n++) {
                found += used[n] && n != one ? parts.span[root[n]] : 0;
            }
            return found;
        }

        int pouredBut(int one) {
            int found = 0;
            for (int n = 0; n < size; n++) {
                found += used[n] && poured[n] && n != one ? parts.two[root[n]] : 0;
            }
            return found;
        }

        void take(int n, int part, boolean isPoured) {
            boolean replaced = isUsed(n);
            int old = root[n];
            root[n] = part;
            used[n] = true;
            changed[n] = true;
            poured[n] = isPoured;
            size = Math.max(size, n + 1);
            if (replaced) {
                forget(old);
            }
        }

        void release(int n) {
            used[n] = false;
            changed[n] = true;
            generation[n] += generation[n] < GENERATIONS - 1 ? 1 : 0;
            forget(root[n]);
        }

        private void forget(int part) {
            int span = parts.span[part];
            parts.cut(part, span);
            closeGap(part, span);
        }

        /** So many parts from there on are gone, and those behind them have moved. */
        void closeGap(int gap, int gone) {
            for (int n = 0; n < size; n++) {
                root[n] -= used[n] && root[n] > gap ? gone : 0;
            }
            trailer -= trailer > gap ? gone : 0;
        }
    }

    /** Looks for the faults of the TAPE as a file, and fills a book on the way. */
    private static final class Opener {
        private final Text text;
        private final Parts parts;
        private final Reader reader;
        private final int[] places = new int[MOST_TABLES];
        /** Of each number: which table, from 1, had it last. */
        private final int[] table = new int[OBJECTS];
        private final int[] place = new int[OBJECTS];
        /** Of each number: the place behind the word stream; -1 if it is none. */
        private final int[] stream = new int[OBJECTS];
        private Book book;
        /** The place of the table to come, as the text tells it, and if there is one. */
        private int next;
        private boolean more;
        private int highest;
        private int afterTrailerWord;

        Opener(Text text, Parts parts, Reader reader) {
            this.text = text;
            this.parts = parts;
            this.reader = reader;
        }

        /** Faults 1 to 4; 0 if there is none of them. */
        int tablesFault(Book filled) {
            book = filled;
            book.empty(text.from, text.to);
            for (int n = 0; n < OBJECTS; n++) {
                table[n] = 0;
            }
            int digit = text.afterText(text.from, BEGIN);
            if (text.digits(digit, 1) < 0) {
                return 1;
            }
            next = lastPlace();
            if (next < 0) {
                return 2;
            }
            for (int t = 0; t < MOST_TABLES; t++) {
                if (!readTable(t)) {
                    return 3;
                }
                if (!readTrailer(t)) {
                    return 4;
                }
                if (!more) {
                    return 0;
                }
            }
            // A table too many is a fault of the table to come, as one that stands twice is.
            return 3;
        }

        /** The number that the text ends with; -1 if it does not end so. */
        private int lastPlace() {
            int at = text.to - LAST_WORD.length();
            while (at > text.from && text.afterText(at, LAST_WORD) < 0) {
                at--;
            }
            if (at <= text.from || text.afterWord(at - 1) >= 0) {
                return -1;
            }
            int number = text.afterByte(text.afterText(at, LAST_WORD), LINE);
            int line = text.afterByte(text.afterWord(number), LINE);
            int behind = text.afterByte(text.afterText(line, LAST_LINE), LINE);
            return behind == text.to ? text.number(number) : -1;
        }

        private boolean readTable(int t) {
            boolean twice = false;
            for (int k = 0; k < t; k++) {
                twice = twice || places[k] == next;
            }
            if (twice || next < 0 || next >= text.tapeSize()) {
                return false;
            }
            places[t] = next;
            highest = -1;
            int at = text.afterByte(text.afterThe(text.from + next, "xref"), LINE);
            at = readSection(at, t);
            for (int k = 0; k < MOST_TAPE && text.digits(at, 1) >= 0; k++) {
                at = readSection(at, t);
            }
            afterTrailerWord = text.afterThe(at, "trailer");
            return afterTrailerWord >= 0;
        }

        private int readSection(int i, int t) {
            int first = text.number(i);
            int second = text.afterByte(text.afterWord(i), SPACE);
            int size = text.number(second);
            int at = text.afterByte(text.afterWord(second), LINE);
            if (first < 0 || size < 0 || at < 0 || size > 0 && first + size > OBJECTS) {
                return -1;
            }
            for (int k = 0; k < size; k++) {
                if (!readEntry(at, first + k, t)) {
                    return -1;
                }
                at += ENTRY;
            }
            return at;
        }

        private boolean readEntry(int i, int n, int t) {
            long told = text.digits(i, 10);
            long generation = text.digits(i + 11, 5);
            boolean used = text.afterText(i + 16, " n \n") >= 0;
            boolean unused = text.afterText(i + 16, " f \n") >= 0;
            boolean isEntry = told >= 0 && text.byteAt(i + 10) == SPACE && generation >= 0
                    && (used || unused);
            if (!isEntry || table[n] == t + 1) {
                return false;
            }
            // That of the latest table holds, and only below the latest table's Size.
            if (table[n] == 0 && (t == 0 || n < book.size)) {
                place[n] = (int) Math.min(told, text.tapeSize());
                book.generation[n] = (int) generation;
                book.used[n] = used;
            }
            table[n] = t + 1;
            highest = Math.max(highest, n);
            return true;
        }

        private boolean readTrailer(int t) {
            int dict = parts.top;
            int behind = reader.read(text.afterByte(afterTrailerWord, LINE), 1);
            if (behind < 0 || parts.kind[dict] != DICT) {
                return false;
            }
            int size = parts.named(dict, "Size");
            int prev = parts.named(dict, "Prev");
            if (size < 0 || parts.kind[size] != INT || prev >= 0 && parts.kind[prev] != INT) {
                return false;
            }
            int told = parts.one[size];
            if (told < 1 || told > OBJECTS || highest >= told) {
                return false;
            }
            more = prev >= 0;
            next = more ? parts.one[prev] : -1;
            book.tables = t + 1;
            if (t == 0) {
                book.size = told;
                book.trailer = dict;
                book.latest = places[0];
            } else {
                parts.top = dict;
            }
            return true;
        }

        /** If there is no fault 5; to be asked only where there is none of the others. */
        boolean objectsStand() {
            int first = parts.top;
            for (int n = 0; n < book.size; n++) {
                if (book.used[n] && (!readObject(n) || parts.top - first > MOST_PARTS)) {
                    return false;
                }
            }
            // Only now is each object there that a Length may lead to.
            for (int n = 0; n < book.size; n++) {
                if (book.used[n] && stream[n] >= 0 && !readStream(n)) {
                    return false;
                }
            }
            return true;
        }

        private boolean readObject(int n) {
            int part = parts.top;
            int behind = text.afterWhite(reader.read(valueAt(n), 1));
            if (behind < 0) {
                return false;
            }
            book.root[n] = part;
            stream[n] = parts.kind[part] == DICT ? text.afterThe(behind, "stream") : -1;
            return stream[n] >= 0 || text.afterThe(behind, "endobj") >= 0;
        }

        private int valueAt(int n) {
            int number = text.from + place[n];
            int generation = text.afterByte(text.afterWord(number), SPACE);
            int word = text.afterByte(text.afterWord(generation), SPACE);
            if (text.number(number) != n || text.number(generation) != book.generation[n]) {
                return -1;
            }
            return text.afterWhite(text.afterThe(word, "obj"));
        }

        private boolean readStream(int n) {
            int part = book.root[n];
            int data = text.afterByte(stream[n], LINE);
            int size = lengthOf(part);
            if (data < 0 || size < 0 || size > text.to - data) {
                return false;
            }
            int behind = text.afterThe(text.afterByte(data + size, LINE), "endstream");
            if (text.afterThe(text.afterWhite(behind), "endobj") < 0) {
                return false;
            }
            parts.kind[part] = STREAM;
            parts.one[part] = data;
            parts.two[part] = size;
            return true;
        }

        private int lengthOf(int dict) {
            int length = parts.named(dict, LENGTH);
            int n = book.leadsTo(length);
            if (n >= 0) {
                length = book.root[n];
            }
            return length >= 0 && parts.kind[length] == INT ? parts.one[length] : -1;
        }
    }

    /** Bytes that are written one behind the other, up to a limit. */
    private static final class Pail {
        final byte[] row;
        int size;
        /** More was written than there is room for. */
        boolean over;
        private int limit;

        Pail(int room) {
            row = new byte[room];
        }

        void start(int most) {
            size = 0;
            over = false;
            limit = Math.min(most, row.length);
        }

        void add(int b) {
            if (size >= limit) {
                over = true;
                return;
            }
            row[size] = (byte) b;
            size++;
        }

        void addRow(byte[] from, int at, int many) {
            if (many > limit - size) {
                over = true;
            } else if (at >= 0 && many > 0 && many <= from.length - at) {
                System.arraycopy(from, at, row, size, many);
                size += many;
            }
        }

        void addText(String written) {
            for (int i = 0; i < written.length(); i++) {
                add(written.charAt(i));
            }
        }

        void addInt(int value) {
            if (value < 0) {
                add('-');
            }
            int left = Math.abs(value);
            int digits = 1;
            for (int rest = left / 10; rest > 0; rest /= 10) {
                digits++;
            }
            addDigits(left, digits);
        }

        void addDigits(int value, int digits) {
            long unit = 1;
            for (int k = 1; k < digits; k++) {
                unit *= 10;
            }
            for (int k = 0; k < digits; k++) {
                add((int) ('0' + value / unit % 10));
                unit = Math.max(1, unit / 10);
            }
        }

        /** The bytes that the string which begins at i means, or two digits of base 16 for each. */
        void addString(Text text, int i, int many, boolean asPairs) {
            boolean pairs = text.byteAt(i) == '<';
            int at = i + 1;
            for (int k = 0; k < many; k++) {
                int width = pairs ? 2 : text.signSize(at);
                int b = pairs ? text.pair(at) : text.sign(at, width);
                if (asPairs) {
                    add(SMALL_DIGITS.charAt(b >> 4 & 15));
                    add(SMALL_DIGITS.charAt(b & 15));
                } else {
                    add(b);
                }
                at += width;
            }
        }
    }

    /** Sends a stream's bytes through its filters. */
    private static final class Decoder {
        private final Text text;
        private final Parts parts;
        private Pail sink = new Pail(MOST_DECODED);
        private Pail otherSink = new Pail(MOST_DECODED);
        /** What comes into the next filter, and at the end what has come out of the last. */
        byte[] source;
        int from;
        int to;

        Decoder(Text text, Parts parts) {
            this.text = text;
            this.parts = parts;
            source = text.row;
        }

        boolean run(int stream) {
            source = text.row;
            from = parts.one[stream];
            to = from + parts.two[stream];
            int filter = parts.named(stream, "Filter");
            if (filter >= 0 && parts.kind[filter] == ARRAY) {
                for (int at = filter + 1; at < parts.behind(filter); at = parts.behind(at)) {
                    if (!pass(at)) {
                        return false;
                    }
                }
            } else if (filter >= 0 && !pass(filter)) {
                return false;
            }
            return to - from <= MOST_DECODED;
        }

        private boolean pass(int filter) {
            sink.start(MOST_DECODED);
            if (!passNamed(filter) || sink.over) {
                return false;
            }
            Pail filled = sink;
            sink = otherSink;
            otherSink = filled;
            source = filled.row;
            from = 0;
            to = filled.size;
            return true;
        }

        private boolean passNamed(int filter) {
            if (parts.isName(filter, "Hex")) {
                return passHex();
            }
            if (parts.isName(filter, "Runs")) {
                return passRuns();
            }
            return parts.isName(filter, "Base85") && passBase85();
        }

        private boolean passHex() {
            int end = to > from && source[to - 1] == '>' ? to - 1 : to;
            if ((end - from) % 2 != 0) {
                return false;
            }
            for (int i = from; i < end; i += 2) {
                int high = hexDigit(source[i]);
                int low = hexDigit(source[i + 1]);
                if (high < 0 || low < 0) {
                    return false;
                }
                sink.add(16 * high + low);
            }
            return true;
        }

        private boolean passRuns() {
            int i = from;
            while (i < to && !sink.over) {
                int k = source[i] & 255;
                int taken = k < 128 ? k + 1 : 1;
                if (k == 128) {
                    return i == to - 1;
                }
                if (taken > to - i - 1) {
                    return false;
                }
                if (k < 128) {
                    sink.addRow(source, i + 1, taken);
                } else {
                    for (int times = 257 - k; times > 0; times--) {
                        sink.add(source[i + 1]);
                    }
                }
                i += taken + 1;
            }
            return false;
        }

        private boolean passBase85() {
            int end = to - 2;
            if (end < from || source[end] != '~' || source[end + 1] != '>') {
                return false;
            }
            int i = from;
            while (i < end) {
                int size = source[i] == 'z' ? 1 : Math.min(5, end - i);
                boolean passed = source[i] == 'z' ? passZeros() : passGroup(i, size);
                if (!passed) {
                    return false;
                }
                i += size;
            }
            return true;
        }

        private boolean passZeros() {
            for (int k = 0; k < 4; k++) {
                sink.add(0);
            }
            return true;
        }

        private boolean passGroup(int i, int size) {
            long value = 0;
            for (int k = 0; k < 5; k++) {
                int digit = k < size ? source[i + k] - 33 : 84;
                if (digit < 0 || digit > 84) {
                    return false;
                }
                value = 85 * value + digit;
            }
            if (size < 2 || value >= 1L << 32) {
                return false;
            }
            for (int k = 0; k < size - 1; k++) {
                sink.add((int) (value >> (24 - 8 * k)));
            }
            return true;
        }
    }

    /** Writes a file and, behind it, its changes. */
    private static final class Writer {
        private final Text text;
        private final Parts parts;
        private final int[] place = new int[OBJECTS];
        private Book book;
        private Pail pail;

        Writer(Text text, Parts parts) {
            this.text = text;
            this.parts = parts;
        }

        void writeFile(Book written, Pail target) {
            book = written;
            pail = target;
            pail.addRow(text.row, book.from, book.to - book.from);
            if (book.marked(book.changed) == 0) {
                return;
            }
            for (int n = 0; n < book.size; n++) {
                if (book.changed[n] && book.used[n]) {
                    writeObject(n);
                }
            }
            int table = pail.size;
            pail.addText("xref\n");
            writeSections();
            pail.addText("trailer\n");
            writeTrailer();
            pail.addText("\nstartxref\n");
            pail.addInt(table);
            pail.addText("\n%%EOF\n");
        }

        private void writeObject(int n) {
            place[n] = pail.size;
            pail.addInt(n);
            pail.add(SPACE);
            pail.addInt(book.generation[n]);
            pail.addText(" obj\n");
            writeValue(book.root[n], 1);
            pail.addText("\nendobj\n");
        }

        private void writeSections() {
            for (int n = 0; n < book.size; n++) {
                if (book.changed[n] && (n == 0 || !book.changed[n - 1])) {
                    writeSection(n);
                }
            }
        }

        private void writeSection(int first) {
            int behind = first;
            while (behind < book.size && book.changed[behind]) {
                behind++;
            }
            pail.addInt(first);
            pail.add(SPACE);
            pail.addInt(behind - first);
            pail.add(LINE);
            for (int n = first; n < behind; n++) {
                pail.addDigits(book.used[n] ? place[n] : 0, 10);
                pail.add(SPACE);
                pail.addDigits(book.generation[n], 5);
                pail.addText(book.used[n] ? " n \n" : " f \n");
            }
        }

        private void writeTrailer() {
            int size = parts.named(book.trailer, "Size");
            int prev = parts.named(book.trailer, "Prev");
            pail.addText("<<");
            for (int at = book.trailer + 1; at < parts.behind(book.trailer); at = parts.behind(at)) {
                writeName(at, at > book.trailer + 1);
                if (at == size) {
                    pail.addInt(book.size);
                } else if (at == prev) {
                    pail.addInt(book.latest);
                } else {
                    writeValue(at, 2);
                }
            }
            if (prev < 0) {
                pail.addText(" /Prev ");
                pail.addInt(book.latest);
            }
            pail.addText(">>");
        }

        private void writeValue(int part, int deep) {
            switch (parts.kind[part]) {
                case NULL: pail.addText("null"); break;
                case TRUE: pail.addText("true"); break;
                case FALSE: pail.addText("false"); break;
                case INT: pail.addInt(parts.one[part]); break;
                case NAME:
                    pail.add('/');
                    pail.addRow(text.row, parts.one[part], parts.two[part]);
                    break;
                case STRING:
                    pail.add('<');
                    pail.addString(text, parts.one[part], parts.two[part], true);
                    pail.add('>');
                    break;
                case REF: writeRef(part); break;
                case STREAM:
                    writeItems(part, deep, "<<", ">>");
                    writeData(part);
                    break;
                case DICT: writeItems(part, deep, "<<", ">>"); break;
                default: writeItems(part, deep, "[", "]"); break;
            }
        }

        private void writeItems(int part, int deep, String before, String behind) {
            pail.addText(before);
            for (int at = part + 1; deep <= MOST_DEEP && at < parts.behind(part); at = parts.behind(at)) {
                if (parts.name[at] >= 0) {
                    writeName(at, at > part + 1);
                } else if (at > part + 1) {
                    pail.add(SPACE);
                }
                writeValue(at, deep + 1);
            }
            pail.addText(behind);
        }

        private void writeName(int part, boolean behindOther) {
            pail.addText(behindOther ? " /" : "/");
            int name = parts.name[part];
            pail.addRow(text.row, name, text.afterWord(name) - name);
            pail.add(SPACE);
        }

        private void writeRef(int part) {
            pail.addInt(parts.one[part]);
            pail.add(SPACE);
            pail.addInt(parts.two[part]);
            pail.addText(" R");
        }

        private void writeData(int part) {
            pail.addText("\nstream\n");
            pail.addRow(text.row, parts.one[part], parts.two[part]);
            pail.addText("\nendstream");
        }
    }

    /** Goes through the tree of pages and keeps their numbers. */
    private static final class PageWalk {
        final int[] numbers = new int[OBJECTS];
        int found;
        private final boolean[] seen = new boolean[OBJECTS];
        private final Parts parts;
        private Book book;

        PageWalk(Parts parts) {
            this.parts = parts;
        }

        /** If the pages are as they must be. */
        boolean through(Book walked) {
            book = walked;
            found = 0;
            for (int n = 0; n < OBJECTS; n++) {
                seen[n] = false;
            }
            int n = book.leadsTo(parts.named(book.trailer, "Root"));
            return isDict(n) && visit(parts.named(book.root[n], "Pages"), 1);
        }

        private boolean isDict(int n) {
            return n >= 0 && parts.kind[book.root[n]] == DICT;
        }

        private boolean visit(int ref, int deep) {
            int n = book.leadsTo(ref);
            if (!isDict(n) || seen[n] || deep > MOST_DEEP) {
                return false;
            }
            seen[n] = true;
            int type = parts.named(book.root[n], "Type");
            if (parts.isName(type, "Page")) {
                numbers[found] = n;
                found++;
                return true;
            }
            return parts.isName(type, "Pages") && visitKids(parts.named(book.root[n], "Kids"), deep);
        }

        private boolean visitKids(int kids, int deep) {
            if (kids < 0 || parts.kind[kids] != ARRAY) {
                return false;
            }
            for (int at = kids + 1; at < parts.behind(kids); at = parts.behind(at)) {
                if (!visit(at, deep + 1)) {
                    return false;
                }
            }
            return true;
        }
    }
}
