import java.nio.charset.StandardCharsets;
import java.util.ArrayList;
import java.util.List;
import java.util.Random;
import java.util.regex.Matcher;
import java.util.regex.Pattern;

/**
 * Files drawn by lot in which one thing lies in another: tables in strings and streams, objects in
 * the values of others, numbers that begin in the midst of a number. Nothing is said of what stands
 * before a place, so that all of them may be files; the Model says which are.
 */
public final class OverlapTest {
    private static final int RUNS = 800;
    private static final int CALLS = 512;
    private static final Pattern TABLE = Pattern.compile("xref\n");
    private static final Pattern OBJECT = Pattern.compile("(?=([0-9]{1,9}) ([0-9]{1,9}) obj)");
    private static final Pattern ENTRY = Pattern.compile("[0-9]{10} [0-9]{5} [nf] \n");
    private static final Pattern PREV = Pattern.compile("/Prev ([0-9]{4})");
    private static final Pattern SECTION = Pattern.compile("([0-9]+) ([0-9]+)\n$");
    private static final int[] FAULTS = new int[6];
    private static final int[] TABLES = new int[7];

    private final Random lot;
    private final PaperFile x = new PaperFile();
    private final Model model = new Model();
    private int used = 0;
    private boolean wrong = false;

    private OverlapTest(int run) {
        // Seeds side by side would begin with the same draws.
        lot = new Random(run * 0x9E3779B97F4A7C15L);
    }

    public static void main(String[] args) {
        int runs = args.length > 0 ? Integer.parseInt(args[0]) : RUNS;
        for (int run = 0; run < runs; run++) {
            Desk.says("run " + run);
            new OverlapTest(run).play();
        }
        if (args.length > 0) {
            System.out.println("faults " + java.util.Arrays.toString(FAULTS) + " tables " + java.util.Arrays.toString(TABLES));
        }
        Desk.says("lots that never draw it test nothing of it");
        for (int fault : new int[] {0, 3, 4, 5}) {
            Desk.due("fault " + fault + " was drawn", FAULTS[fault] > 0, true);
        }
        for (int tables = 1; tables <= 4; tables++) {
            Desk.due("a file of " + tables + " tables was drawn", TABLES[tables] > 0, true);
        }
        Desk.finish();
    }

    private int any(int n) {
        return lot.nextInt(n);
    }

    private String one(String... of) {
        return of[any(of.length)];
    }

    private void due(String what, int got, int want) {
        used++;
        wrong = wrong || got != want;
        Desk.due(what, got, want);
    }

    private void play() {
        for (int files = 0; files < 3 && used < 300 && !wrong; files++) {
            String text = file();
            tape(text);
            int want = model.open();
            FAULTS[want]++;
            TABLES[want == 0 ? model.count(2) : 0]++;
            due("open", x.open(), want);
            look();
            if (wrong) {
                System.out.println(text);
            }
        }
    }

    private void tape(String text) {
        byte[] b = text.getBytes(StandardCharsets.ISO_8859_1);
        for (int at = 0; at < b.length; at += 20) {
            int[] w = new int[5];
            for (int k = 0; k < 20; k++) {
                w[k / 4] = w[k / 4] << 8 | (at + k < b.length ? b[at + k] & 255 : any(256));
            }
            due("feed", x.feed(w[0], w[1], w[2], w[3], w[4]), model.feed(w[0], w[1], w[2], w[3], w[4]));
        }
        due("end", x.end(b.length), model.end(b.length));
    }

    private void look() {
        for (int what = 0; what < 6; what++) {
            due("count " + what, x.count(what), model.count(what));
        }
        for (int n = 0; n < 14 && used < CALLS - 20; n++) {
            if (model.go(n) >= 0) {
                due("go " + n, x.go(n), model.go(n));
                due("state", x.state(n, 1), model.state(n, 1));
                due("bytes", x.bytes(-1), model.bytes(-1));
                sameOut();
            }
        }
        if (any(3) == 0) {
            tape(one("1", "[5 0 R]", "(x)"));
            int n = any(6);
            due("put " + n, x.put(n), model.put(n));
        }
        due("save", x.save(), model.save());
        sameOut();
    }

    /** Beside the run: what OUT has. */
    private void sameOut() {
        for (int i = -1; i < model.octet(-1); i++) {
            if (x.octet(i) != model.octet(i)) {
                due("octet " + i, x.octet(i), model.octet(i));
                return;
            }
        }
    }

    // The text: first with noughts in place of all places, which are filled in then.

    private String file() {
        StringBuilder text = new StringBuilder("%PDF-1.").append(any(10)).append(one("", "\n", " "));
        for (int k = 2 + any(5); k > 0; k--) {
            text.append(any(3) == 0 ? table(0) : object(0)).append(one("", " ", "\n", "%\n"));
        }
        text.append(table(0)).append('\n');
        String filled = filled(text.toString());
        List<Integer> tables = places(filled);
        int latest = tables.get(any(3) == 0 ? any(tables.size()) : tables.size() - 1);
        String whole = filled + "startxref\n" + latest + "\n%%EOF\n";
        return whole.length() > 2500 ? filled("%PDF-1.0\n" + table(1) + "\n") + "startxref\n9\n%%EOF\n" : whole;
    }

    private String number() {
        return one("", "", "0", "1", "00") + any(12) + " " + one("0", "0", "0", "00", "1") + " obj";
    }

    private String object(int deep) {
        return number() + one("\n", " ", deep == 0 ? "" : "\n") + value(deep) + one("\n", " ") + "endobj";
    }

    private String value(int deep) {
        switch (any(deep > 2 ? 4 : 9)) {
            case 0: return String.valueOf(any(60));
            case 1: return one("/N", "null", "<0a>", "()", "[]", "<<>>");
            case 2: return any(9) + " 0 R";
            case 3: return "[" + any(9) + " " + one("", "0 R") + "]";
            case 4: return "(" + inString(deep) + ")";
            case 5: return "[" + value(deep + 1) + " " + value(deep + 1) + "]";
            case 6: return "<</A " + value(deep + 1) + "/B " + value(deep + 1) + ">>";
            default: return stream(deep);
        }
    }

    /** No ( or ) that would end it: values are words, and names whose last byte is \. */
    private String inString(int deep) {
        switch (any(4)) {
            case 0: return number() + " " + any(50) + " endobj";
            case 1: return number() + "/N\\(" + (any(2) == 0 ? "\\) " : "") + "endobj ";
            case 2: return "xref\n0 0\ntrailer\n<</Size 5" + one("", "/Prev 0000") + ">>";
            default: return one("", "startxref\n", "endobj", "1 0 obj 2 endobj");
        }
    }

    private String stream(int deep) {
        String bytes = any(2) == 0 ? table(deep + 1) : object(deep + 1) + one("", "\n", " ") + object(deep + 1);
        String length = any(4) == 0 ? any(9) + " 0 R" : String.valueOf(bytes.length());
        return "<</Length " + length + ">>" + one("", "\n", " ") + "stream\n" + bytes + "\nendstream";
    }

    private String table(int deep) {
        StringBuilder text = new StringBuilder(one("xref\n", "xref\n", "startxref\n"));
        int first = any(3);
        for (int sections = any(3); sections >= 0; sections--) {
            int many = any(deep > 0 ? 2 : 4);
            text.append(first).append(' ').append(many).append('\n');
            for (int k = 0; k < many; k++) {
                text.append("0000000000 0000").append(any(12) == 0 ? 1 : 0).append(any(4) == 0 ? " f \n" : " n \n");
            }
            first += many + any(2);
        }
        String more = any(3) == 0 ? "/X(" + inString(deep) + ")" : any(6) == 0 ? "/Y" + value(deep + 2) : "";
        return text + "trailer\n<<" + one("/Prev 0000", "/Prev 0000", "") + more + "/Size " + (any(12) == 0 ? 3 : 12) + ">>";
    }

    private static List<Integer> places(String text) {
        List<Integer> found = new ArrayList<>();
        Matcher m = TABLE.matcher(text);
        while (m.find()) {
            found.add(m.start());
        }
        return found;
    }

    private String filled(String text) {
        StringBuilder b = new StringBuilder(text);
        List<Integer> tables = places(text);
        Matcher m = PREV.matcher(text);
        while (m.find()) {
            // Mostly a table before this one, so that rows of tables come to an end.
            int before = 0;
            while (before < tables.size() && tables.get(before) < m.start()) {
                before++;
            }
            int place = tables.get(any(6) == 0 || before < 2 ? any(tables.size()) : any(before - 1));
            b.replace(m.start(1), m.end(1), String.format("%04d", place));
        }
        fillEntries(text, b);
        return b.toString();
    }

    private void fillEntries(String text, StringBuilder b) {
        Matcher m = ENTRY.matcher(text);
        int number = 0;
        int behind = -1;
        while (m.find()) {
            if (m.start() != behind) {
                Matcher head = SECTION.matcher(text.substring(Math.max(0, m.start() - 12), m.start()));
                number = head.find() ? Integer.parseInt(head.group(1)) : 0;
            }
            behind = m.end();
            fillEntry(text, b, m.start(), number);
            number++;
        }
    }

    /** Where an object of this number begins, or the number in a longer one; free if there is none. */
    private void fillEntry(String text, StringBuilder b, int at, int number) {
        List<Integer> found = new ArrayList<>();
        Matcher m = OBJECT.matcher(text);
        while (m.find()) {
            if (Integer.parseInt(m.group(1)) == number) {
                found.add(m.start());
            }
        }
        if (found.isEmpty() || any(30) == 0) {
            b.setCharAt(at + 17, 'f');
            return;
        }
        int place = found.get(any(found.size()));
        b.replace(at, at + 10, String.format("%010d", place));
        m.region(place, text.length());
        if (m.find() && any(15) > 0) {
            b.replace(at + 11, at + 16, String.format("%05d", Integer.parseInt(m.group(2))));
        }
    }
}
