import java.util.ArrayList;
import java.util.HashSet;
import java.util.LinkedHashMap;
import java.util.List;
import java.util.Map;
import java.util.Set;
import java.util.TreeMap;
import java.util.regex.Matcher;
import java.util.regex.Pattern;

/**
 * The document once more, in another way: values are trees, texts are Strings, and the grammar is
 * written in patterns. ModelTest asks both the same.
 */
final class Model {
    private static final String REGULAR = "[!-~&&[^()<>\\[\\]/]]";
    private static final String NO_MORE = "(?!" + REGULAR + ")";
    private static final String NUMBER = "([0-9]{1,9})" + NO_MORE;
    private static final Pattern WHITE = Pattern.compile("[ \\n\\r]*");
    private static final Pattern CONSTANT = Pattern.compile("(null|true|false)" + NO_MORE);
    private static final Pattern INT = Pattern.compile("(-?[0-9]{1,9})" + NO_MORE);
    private static final Pattern NAME = Pattern.compile("/(" + REGULAR + "{1,20})" + NO_MORE);
    private static final Pattern STRING = Pattern.compile("\\(((?:[^()\\\\]|\\\\[()\\\\]|\\\\[0-3][0-7][0-7])*)\\)", Pattern.DOTALL);
    private static final Pattern PAIRS = Pattern.compile("<((?:[0-9a-fA-F]{2})*)>");
    private static final Pattern REF = Pattern.compile(NUMBER + "[ \\n\\r]+" + NUMBER + "[ \\n\\r]+R" + NO_MORE);
    private static final Pattern END = Pattern.compile("(?<!" + REGULAR + ")startxref\\n" + NUMBER + "\\n%%EOF\\n\\z");
    private static final Pattern SECTION = Pattern.compile(NUMBER + " " + NUMBER + "\\n");
    private static final Pattern ENTRY = Pattern.compile("([0-9]{10}) ([0-9]{5}) ([nf]) \\n");
    private static final Pattern TRAILER = Pattern.compile("trailer" + NO_MORE);
    private static final Pattern HEAD = Pattern.compile(NUMBER + " " + NUMBER + " obj" + NO_MORE + "[ \\n\\r]*");
    private static final Pattern STREAM_WORD = Pattern.compile("[ \\n\\r]*stream" + NO_MORE);
    private static final Pattern END_STREAM = Pattern.compile("\\nendstream" + NO_MORE);
    private static final Pattern END_OBJECT = Pattern.compile("[ \\n\\r]*endobj" + NO_MORE);

    /** A value: its kind and what it needs. */
    static final class Value {
        int kind;
        int one;
        int two;
        String bytes = "";
        final List<Value> items = new ArrayList<>();
        final List<String> names = new ArrayList<>();

        Value named(String name) {
            int k = names.indexOf(name);
            return k < 0 ? null : items.get(k);
        }

        int parts() {
            int sum = 1;
            for (Value v : items) {
                sum += v.parts();
            }
            return sum;
        }
    }

    static final class Broken extends RuntimeException {
        private static final long serialVersionUID = 1L;
        final int code;

        Broken(int code) {
            super(null, null, false, false);
            this.code = code;
        }
    }

    private static final class Entry {
        boolean used;
        boolean changed;
        boolean poured;
        long place;
        int generation;
        Value value;
    }

    private static final class FileState {
        String text = "";
        int size;
        int tables;
        int latest;
        Value trailer;
        final Map<Integer, Entry> entries = new TreeMap<>();

        Entry at(int n) {
            return entries.computeIfAbsent(n, k -> new Entry());
        }

        Value leads(Value ref) {
            Integer n = number(ref);
            return n == null ? null : entries.get(n).value;
        }

        Integer number(Value ref) {
            if (ref == null || ref.kind != 8) {
                return null;
            }
            Entry e = entries.get(ref.one);
            return ref.one < size && e != null && e.used && e.generation == ref.two ? ref.one : null;
        }
    }

    private String tape = "";
    private String out = "";
    private FileState file;
    private Value point;
    private String text;
    private int at;

    // The grammar.

    private Matcher take(Pattern p) {
        Matcher m = p.matcher(text);
        if (at < 0 || at > text.length()) {
            return null;
        }
        m.region(at, text.length()).useTransparentBounds(true).useAnchoringBounds(false);
        if (!m.lookingAt()) {
            return null;
        }
        at = m.end();
        return m;
    }

    private Matcher need(Pattern p, int code) {
        Matcher m = take(p);
        if (m == null) {
            throw new Broken(code);
        }
        return m;
    }

    private boolean takeText(String s) {
        boolean there = at <= text.length() && text.startsWith(s, at);
        at += there ? s.length() : 0;
        return there;
    }

    private Value object(int deep) {
        Value v = new Value();
        Matcher m;
        if (takeText("<<")) {
            v.kind = 7;
            inside(v, ">>", deep, 30);
        } else if (takeText("[")) {
            v.kind = 6;
            inside(v, "]", deep, 60);
        } else if ((m = take(REF)) != null && Integer.parseInt(m.group(1)) < 300 && Integer.parseInt(m.group(2)) < 65536) {
            v.kind = 8;
            v.one = Integer.parseInt(m.group(1));
            v.two = Integer.parseInt(m.group(2));
        } else {
            at = m == null ? at : m.start();
            scalar(v);
        }
        return v;
    }

    private void scalar(Value v) {
        Matcher m;
        if ((m = take(INT)) != null) {
            v.kind = 3;
            v.one = Integer.parseInt(m.group(1));
        } else if ((m = take(CONSTANT)) != null) {
            v.kind = List.of("null", "true", "false").indexOf(m.group(1));
        } else if ((m = take(NAME)) != null) {
            v.kind = 4;
            v.bytes = m.group(1);
        } else if ((m = take(STRING)) != null) {
            v.kind = 5;
            v.bytes = unescaped(m.group(1));
        } else if ((m = take(PAIRS)) != null) {
            v.kind = 5;
            v.bytes = unpaired(m.group(1));
        } else {
            throw new Broken(0);
        }
        if (v.kind == 5 && v.bytes.length() > 100) {
            throw new Broken(0);
        }
    }

    private void inside(Value v, String close, int deep, int most) {
        if (deep > 8) {
            throw new Broken(0);
        }
        take(WHITE);
        while (!takeText(close)) {
            if (v.kind == 7) {
                String name = need(NAME, 0).group(1);
                if (v.names.contains(name)) {
                    throw new Broken(0);
                }
                v.names.add(name);
                take(WHITE);
            }
            v.items.add(object(deep + 1));
            if (v.items.size() > most) {
                throw new Broken(0);
            }
            take(WHITE);
        }
    }

    private static String unescaped(String s) {
        StringBuilder b = new StringBuilder();
        Matcher m = Pattern.compile("\\\\([0-7]{3})|\\\\?(.)", Pattern.DOTALL).matcher(s);
        while (m.find()) {
            b.append(m.group(1) != null ? (char) Integer.parseInt(m.group(1), 8) : m.group(2).charAt(0));
        }
        return b.toString();
    }

    private static String unpaired(String s) {
        StringBuilder b = new StringBuilder();
        for (int i = 0; i < s.length(); i += 2) {
            b.append((char) Integer.parseInt(s.substring(i, i + 2), 16));
        }
        return b.toString();
    }

    // A text as a file.

    private FileState read(String whole) {
        text = whole;
        FileState f = new FileState();
        f.text = whole;
        if (!whole.matches("(?s)%PDF-1\\.[0-9].*")) {
            throw new Broken(1);
        }
        Matcher end = END.matcher(whole);
        if (!end.find()) {
            throw new Broken(2);
        }
        List<Integer> places = new ArrayList<>();
        Integer place = Integer.valueOf(end.group(1));
        while (place != null) {
            if (places.size() == 6 || place < 0 || place >= whole.length() || places.contains(place)) {
                throw new Broken(3);
            }
            places.add(place);
            at = place;
            place = table(f, places.size() == 1);
        }
        f.tables = places.size();
        f.latest = places.get(0);
        f.entries.keySet().removeIf(n -> n >= f.size);
        readObjects(f);
        return f;
    }

    private Integer table(FileState f, boolean latest) {
        if (!takeText("xref\n")) {
            throw new Broken(3);
        }
        Map<Integer, Entry> found = new TreeMap<>();
        Matcher m = need(SECTION, 3);
        while (m != null) {
            int first = Integer.parseInt(m.group(1));
            int many = Integer.parseInt(m.group(2));
            for (int k = 0; k < many; k++) {
                Matcher line = need(ENTRY, 3);
                Entry e = new Entry();
                e.place = Long.parseLong(line.group(1));
                e.generation = Integer.parseInt(line.group(2));
                e.used = line.group(3).equals("n");
                if (first + k > 299 || found.put(first + k, e) != null) {
                    throw new Broken(3);
                }
            }
            m = take(SECTION);
        }
        need(TRAILER, 3);
        Value t = trailerDict();
        int size = t.named("Size").one;
        for (int n : found.keySet()) {
            if (n >= size) {
                throw new Broken(4);
            }
        }
        found.forEach(f.entries::putIfAbsent);
        if (latest) {
            f.size = size;
            f.trailer = t;
        }
        Value prev = t.named("Prev");
        return prev == null ? null : Integer.valueOf(prev.one);
    }

    private Value trailerDict() {
        Value t;
        try {
            t = takeText("\n") ? object(1) : null;
        } catch (Broken e) {
            t = null;
        }
        Value size = t == null || t.kind != 7 ? null : t.named("Size");
        if (size == null || size.kind != 3 || size.one < 1 || size.one > 300
                || t.named("Prev") != null && t.named("Prev").kind != 3) {
            throw new Broken(4);
        }
        return t;
    }

    private void readObjects(FileState f) {
        Map<Integer, Integer> streams = new TreeMap<>();
        try {
            for (Map.Entry<Integer, Entry> pair : f.entries.entrySet()) {
                Entry e = pair.getValue();
                if (!e.used) {
                    continue;
                }
                at = (int) Math.min(e.place, text.length());
                Matcher head = need(HEAD, 5);
                if (Integer.parseInt(head.group(1)) != pair.getKey() || Integer.parseInt(head.group(2)) != e.generation) {
                    throw new Broken(5);
                }
                e.value = object(1);
                if (e.value.kind == 7 && take(STREAM_WORD) != null) {
                    streams.put(pair.getKey(), at);
                } else {
                    need(END_OBJECT, 5);
                }
            }
            for (Map.Entry<Integer, Integer> stream : streams.entrySet()) {
                at = stream.getValue();
                readStream(f, f.entries.get(stream.getKey()).value);
            }
        } catch (Broken e) {
            throw new Broken(5);
        }
        if (parts(f, -1) > 900) {
            throw new Broken(5);
        }
    }

    private void readStream(FileState f, Value v) {
        Value length = v.named("Length");
        Value told = f.leads(length);
        length = told == null ? length : told;
        if (!takeText("\n") || length == null || length.kind != 3 || length.one < 0 || at + length.one > text.length()) {
            throw new Broken(5);
        }
        v.bytes = text.substring(at, at + length.one);
        at += length.one;
        need(END_STREAM, 5);
        need(END_OBJECT, 5);
        v.kind = 9;
    }

    private static int parts(FileState f, int but) {
        int sum = 0;
        for (Map.Entry<Integer, Entry> e : f.entries.entrySet()) {
            sum += e.getValue().used && e.getKey() != but ? e.getValue().value.parts() : 0;
        }
        return sum;
    }

    // The calls.

    private String emptied() {
        String was = tape;
        tape = "";
        return was;
    }

    private int pointTo(Value v) {
        if (v == null) {
            return -2;
        }
        point = v;
        return v.kind;
    }

    private int outIs(String s) {
        out = s;
        return s.length();
    }

    int feed(int a, int b, int c, int d, int e) {
        if (tape.length() > 3980) {
            return -3;
        }
        for (int word : new int[] {a, b, c, d, e}) {
            tape += "" + (char) (word >>> 24) + (char) (word >> 16 & 255) + (char) (word >> 8 & 255) + (char) (word & 255);
        }
        return tape.length();
    }

    int end(int n) {
        if (n < 0 || n > tape.length()) {
            return -1;
        }
        tape = tape.substring(0, n);
        return n;
    }

    int open() {
        try {
            file = read(emptied());
            point = null;
            return 0;
        } catch (Broken e) {
            return e.code;
        }
    }

    private boolean used(int n) {
        return file != null && file.entries.containsKey(n) && file.entries.get(n).used;
    }

    int go(int n) {
        return used(n) ? pointTo(file.entries.get(n).value) : -2;
    }

    int trailer() {
        return file == null ? -2 : pointTo(file.trailer);
    }

    int item(int k) {
        return point == null || k < 0 || k >= point.items.size() ? -2 : pointTo(point.items.get(k));
    }

    int find() {
        String name = emptied();
        return point == null ? -2 : pointTo(point.named(name));
    }

    int follow() {
        return file == null || point == null ? -2 : pointTo(file.leads(point));
    }

    int look(int what) {
        if (what < 0 || what > 2) {
            return -1;
        }
        if (point == null) {
            return -2;
        }
        int k = point.kind;
        if (what == 0) {
            return k;
        }
        if (what == 2) {
            return k == 8 ? point.two : k == 9 ? point.names.size() : 0;
        }
        return k == 3 || k == 8 ? point.one : k == 4 || k == 5 || k == 9 ? point.bytes.length() : point.items.size();
    }

    int bytes(int k) {
        if (point == null) {
            return -2;
        }
        if (point.kind == 4 || point.kind == 5 || point.kind == 9 && k < 0) {
            return outIs(point.bytes);
        }
        return k < 0 || k >= point.names.size() ? -2 : outIs(point.names.get(k));
    }

    int decode() {
        if (point == null || point.kind != 9) {
            return -2;
        }
        try {
            String s = point.bytes;
            Value filter = point.named("Filter");
            List<Value> row = filter == null ? List.of() : filter.kind == 6 ? filter.items : List.of(filter);
            for (Value f : row) {
                s = through(f, s);
            }
            if (s.length() > 3000) {
                return -4;
            }
            return outIs(s);
        } catch (Broken e) {
            return -4;
        }
    }

    private static String through(Value filter, String s) {
        String name = filter.kind == 4 ? filter.bytes : "";
        String made;
        if (name.equals("Hex") && s.matches("([0-9a-fA-F]{2})*>?")) {
            made = unpaired(s.replace(">", ""));
        } else if (name.equals("Runs")) {
            made = unrun(s);
        } else if (name.equals("Base85") && s.matches("(z|[!-u]{5})*([!-u]{2,4})?~>")) {
            made = un85(s.substring(0, s.length() - 2).replace("z", "!!!!!"));
        } else {
            throw new Broken(-4);
        }
        if (made.length() > 3000) {
            throw new Broken(-4);
        }
        return made;
    }

    private static String unrun(String s) {
        StringBuilder b = new StringBuilder();
        int i = 0;
        while (i < s.length() && s.charAt(i) != 128) {
            int k = s.charAt(i);
            int taken = k < 128 ? k + 1 : 1;
            if (i + 1 + taken > s.length()) {
                throw new Broken(-4);
            }
            b.append(s.substring(i + 1, i + 1 + taken).repeat(k < 128 ? 1 : 257 - k));
            i += 1 + taken;
        }
        if (i != s.length() - 1) {
            throw new Broken(-4);
        }
        return b.toString();
    }

    private static String un85(String s) {
        StringBuilder b = new StringBuilder();
        for (int i = 0; i < s.length(); i += 5) {
            String group = s.substring(i, Math.min(s.length(), i + 5));
            long v = 0;
            for (char c : (group + "uuuu").substring(0, 5).toCharArray()) {
                v = v * 85 + c - 33;
            }
            if (v > 0xffffffffL) {
                throw new Broken(-4);
            }
            String four = "" + (char) (v >> 24) + (char) (v >> 16 & 255) + (char) (v >> 8 & 255) + (char) (v & 255);
            b.append(four, 0, group.length() - 1);
        }
        return b.toString();
    }

    int octet(int i) {
        return i == -1 ? out.length() : i >= 0 && i < out.length() ? out.charAt(i) : -2;
    }

    int put(int n) {
        String s = emptied();
        if (file == null) {
            return -2;
        }
        if (n < 0 || n > file.size || n > 299) {
            return -1;
        }
        Value v;
        try {
            text = s;
            at = 0;
            take(WHITE);
            v = object(1);
            take(WHITE);
            if (at != s.length()) {
                return -4;
            }
        } catch (Broken e) {
            return -4;
        }
        return change(n, v, false);
    }

    int pour(int n) {
        String s = emptied();
        if (file == null) {
            return -2;
        }
        if (n < 0 || n > file.size || n > 299) {
            return -1;
        }
        int sum = s.length();
        for (Map.Entry<Integer, Entry> e : file.entries.entrySet()) {
            sum += e.getValue().used && e.getValue().poured && e.getKey() != n ? e.getValue().value.bytes.length() : 0;
        }
        if (sum > 4000) {
            return -3;
        }
        Value length = new Value();
        length.kind = 3;
        length.one = s.length();
        Value v = new Value();
        v.kind = 9;
        v.bytes = s;
        v.names.add("Length");
        v.items.add(length);
        return change(n, v, true);
    }

    private int change(int n, Value v, boolean poured) {
        if (parts(file, n) + v.parts() > 900) {
            return -3;
        }
        Entry e = file.at(n);
        e.used = true;
        e.changed = true;
        e.poured = poured;
        e.value = v;
        file.size = Math.max(file.size, n + 1);
        point = null;
        return file.size;
    }

    int free(int n) {
        if (!used(n)) {
            return -2;
        }
        Entry e = file.at(n);
        e.used = false;
        e.changed = true;
        e.value = null;
        e.generation += e.generation < 65535 ? 1 : 0;
        point = null;
        return count(1);
    }

    int save() {
        if (file == null) {
            return -2;
        }
        StringBuilder b = new StringBuilder(file.text);
        if (count(3) > 0) {
            appendChanges(b);
        }
        return b.length() > 6000 ? -3 : outIs(b.toString());
    }

    private void appendChanges(StringBuilder b) {
        Map<Integer, String> lines = new TreeMap<>();
        file.entries.forEach((n, e) -> {
            if (e.changed) {
                lines.put(n, String.format("%010d %05d %s \n", e.used ? b.length() : 0, e.generation, e.used ? "n" : "f"));
            }
            if (e.changed && e.used) {
                b.append(n + " " + e.generation + " obj\n" + written(e.value) + "\nendobj\n");
            }
        });
        int table = b.length();
        b.append("xref\n");
        for (int n : lines.keySet()) {
            if (!lines.containsKey(n - 1)) {
                int many = 1;
                while (lines.containsKey(n + many)) {
                    many++;
                }
                b.append(n + " " + many + "\n");
            }
            b.append(lines.get(n));
        }
        Map<String, String> pairs = new LinkedHashMap<>();
        for (String name : file.trailer.names) {
            pairs.put(name, written(file.trailer.named(name)));
        }
        pairs.put("Size", "" + file.size);
        pairs.put("Prev", "" + file.latest);
        List<String> row = new ArrayList<>();
        pairs.forEach((name, value) -> row.add("/" + name + " " + value));
        b.append("trailer\n<<" + String.join(" ", row) + ">>\nstartxref\n" + table + "\n%%EOF\n");
    }

    private static String written(Value v) {
        List<String> row = new ArrayList<>();
        for (int k = 0; k < v.items.size(); k++) {
            row.add((v.names.isEmpty() ? "" : "/" + v.names.get(k) + " ") + written(v.items.get(k)));
        }
        String inner = String.join(" ", row);
        switch (v.kind) {
            case 3: return "" + v.one;
            case 4: return "/" + v.bytes;
            case 5: return paired(v.bytes);
            case 6: return "[" + inner + "]";
            case 7: return "<<" + inner + ">>";
            case 8: return v.one + " " + v.two + " R";
            case 9: return "<<" + inner + ">>\nstream\n" + v.bytes + "\nendstream";
            default: return List.of("null", "true", "false").get(v.kind);
        }
    }

    private static String paired(String s) {
        StringBuilder b = new StringBuilder("<");
        for (char c : s.toCharArray()) {
            b.append(String.format("%02x", (int) c));
        }
        return b.append('>').toString();
    }

    private List<Integer> allPages() {
        Value root = file == null ? null : file.leads(file.trailer.named("Root"));
        List<Integer> row = new ArrayList<>();
        if (root == null || root.kind != 7 || !walk(root.named("Pages"), 1, row, new HashSet<>())) {
            return null;
        }
        return row;
    }

    private boolean walk(Value ref, int deep, List<Integer> row, Set<Integer> seen) {
        Integer n = file.number(ref);
        Value v = file.leads(ref);
        if (n == null || v.kind != 7 || deep > 8 || !seen.add(n)) {
            return false;
        }
        Value type = v.named("Type");
        Value kids = v.named("Kids");
        if (type == null || type.kind != 4) {
            return false;
        }
        if (type.bytes.equals("Page")) {
            return row.add(n);
        }
        if (!type.bytes.equals("Pages") || kids == null || kids.kind != 6) {
            return false;
        }
        for (Value kid : kids.items) {
            if (!walk(kid, deep + 1, row, seen)) {
                return false;
            }
        }
        return true;
    }

    int pages() {
        List<Integer> row = allPages();
        return file == null ? -2 : row == null ? -4 : row.size();
    }

    int page(int k) {
        List<Integer> row = allPages();
        return row == null || k < 0 || k >= row.size() ? -2 : row.get(k);
    }

    int count(int what) {
        if (what < 0 || what > 5) {
            return -1;
        }
        if (file == null) {
            return 0;
        }
        switch (what) {
            case 0: return file.size;
            case 1: return (int) file.entries.values().stream().filter(e -> e.used).count();
            case 2: return file.tables;
            case 3: return (int) file.entries.values().stream().filter(e -> e.changed).count();
            case 4: return file.text.length();
            default: return parts(file, -1);
        }
    }

    int state(int n, int what) {
        if (what < 0 || what > 2) {
            return -1;
        }
        if (file == null || n < 0 || n >= file.size) {
            return -2;
        }
        Entry e = file.entries.getOrDefault(n, new Entry());
        return what == 1 ? e.generation : (what == 0 ? e.used : e.changed) ? 1 : 0;
    }
}
