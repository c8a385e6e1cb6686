import java.nio.charset.StandardCharsets;
import java.util.ArrayList;
import java.util.List;
import java.util.Random;

/**
 * Runs of calls that are drawn by lot, always the same ones, on a PaperFile and on the Model: both
 * must answer alike. Files are well formed at first, then bytes of them are spoiled.
 */
public final class ModelTest {
    private static final int RUNS = 1500;
    private static final int CALLS = 512;
    private static final String[] NAMES = {"Type", "Kids", "Pages", "Page", "Root", "Size", "Prev", "Length", "Filter", "Hex", "Runs",
        "Base85", "A", "B", "C", "LongNameOf20BytesXYZ"};

    private final Random lot;
    private final int run;
    private final PaperFile x = new PaperFile();
    private final Model model = new Model();
    private final List<String> calls = new ArrayList<>();
    private int used = 0;
    private static int wrong = 0;
    private static final int[] FAULTS = new int[6];
    private static int trueStreams = 0;

    private ModelTest(int run) {
        this.run = run;
        // Seeds side by side would begin with the same draws.
        lot = new Random(run * 0x9E3779B97F4A7C15L);
    }

    public static void main(String[] args) {
        int runs = args.length > 0 ? Integer.parseInt(args[0]) : RUNS;
        for (int run = 0; run < runs && wrong < 10; run++) {
            new ModelTest(run).play();
        }
        for (int fault = 0; fault <= 5; fault++) {
            // A lot that never draws a fault would test nothing of it.
            if (FAULTS[fault] == 0) {
                System.out.println("fault " + fault + " was never drawn");
                wrong++;
            }
        }
        if (args.length > 0) {
            System.out.println(java.util.Arrays.toString(FAULTS) + " streams decoded " + trueStreams);
        }
        System.exit(wrong == 0 ? 0 : 1);
    }

    private void due(String call, int got, int want) {
        used++;
        calls.add(call + " -> " + want);
        if (got != want) {
            wrong++;
            System.out.println("run " + run + ": " + call + " answered " + got + ", due is " + want);
            System.out.println("behind " + calls.subList(Math.max(0, calls.size() - 12), calls.size()));
        }
    }

    private void play() {
        file(lot.nextInt(10) == 0 ? 0 : 1 + lot.nextInt(30));
        while (used < CALLS - 60 && wrong == 0) {
            call(lot.nextInt(24));
        }
    }

    private int any(int n) {
        return lot.nextInt(n);
    }

    private String one(String... of) {
        return of[any(of.length)];
    }

    private int number() {
        int n = any(12);
        return any(30) == 0 ? any(2) == 0 ? -1 : 298 + any(4) : n;
    }

    private void tape(String text) {
        byte[] b = text.getBytes(StandardCharsets.ISO_8859_1);
        calls.add("TAPE " + text);
        for (int at = 0; at < b.length; at += 20) {
            int[] w = new int[5];
            for (int k = 0; k < 20; k++) {
                w[k / 4] = w[k / 4] << 8 | (at + k < b.length ? b[at + k] & 255 : any(256));
            }
            due("feed", x.feed(w[0], w[1], w[2], w[3], w[4]), model.feed(w[0], w[1], w[2], w[3], w[4]));
        }
        due("end", x.end(b.length), model.end(b.length));
    }

    private void call(int which) {
        int n = number();
        int k = any(7) - 1;
        int w = any(8) - 1;
        switch (which) {
            case 0: tape(value(0)); due("put " + n, x.put(n), model.put(n)); break;
            case 1: tape(spoiled(value(0), 1)); due("put " + n, x.put(n), model.put(n)); break;
            case 2: tape(streamBytes(any(4))); due("pour " + n, x.pour(n), model.pour(n)); break;
            case 3: due("free " + n, x.free(n), model.free(n)); break;
            case 4: save(); break;
            case 5: due("pages", x.pages(), model.pages()); due("page " + k, x.page(k), model.page(k)); break;
            case 6: due("count " + w, x.count(w), model.count(w)); break;
            case 7: due("state", x.state(n, w % 4), model.state(n, w % 4)); break;
            case 8: due("trailer", x.trailer(), model.trailer()); break;
            case 9: tape(one(NAMES)); due("find", x.find(), model.find()); break;
            case 10: case 11: due("follow", x.follow(), model.follow()); break;
            case 12: case 13: due("look " + w, x.look(w), model.look(w)); break;
            case 14: case 15: due("bytes " + k, x.bytes(k), model.bytes(k)); sameOut(); break;
            case 16: case 17: decode(); break;
            case 18: if (any(3) == 0) { file(any(4)); } break;
            case 19: case 20: due("item " + k, x.item(k), model.item(k)); break;
            default: due("go " + n, x.go(n), model.go(n)); break;
        }
    }

    private void decode() {
        for (int n = 0; n < 12; n++) {
            if (model.go(n) == 9) {
                due("go " + n, x.go(n), model.go(n));
                int want = model.decode();
                trueStreams += want > 0 ? 1 : 0;
                due("decode", x.decode(), want);
                sameOut();
            } else {
                due("go " + n, x.go(n), model.go(n));
            }
        }
    }

    /** Not counted: what OUT has is looked at beside the run. */
    private void sameOut() {
        for (int i = -2; i <= model.octet(-1); i++) {
            if (x.octet(i) != model.octet(i)) {
                due("octet " + i, x.octet(i), model.octet(i));
            }
        }
    }

    private void save() {
        int want = model.save();
        due("save", x.save(), want);
        sameOut();
        StringBuilder saved = new StringBuilder();
        for (int i = 0; i < model.octet(-1); i++) {
            saved.append((char) model.octet(i));
        }
        if (want > 0 && any(3) == 0 && want <= 4000 && used + saved.length() / 20 < CALLS - 60) {
            open(any(3) == 0 ? spoiled(saved.toString(), 1 + any(3)) : saved.toString());
        }
    }

    private void open(String text) {
        tape(text);
        int want = model.open();
        FAULTS[want]++;
        due("open", x.open(), want);
        for (int w = 0; w < 6 && used < CALLS; w++) {
            due("count " + w, x.count(w), model.count(w));
        }
    }

    private void file(int spoils) {
        String text = paper();
        if (text.length() <= 4000 && used + text.length() / 20 < CALLS - 80) {
            open(spoils == 0 || any(2) == 0 ? text : spoiled(text, 1 + any(2)));
        }
    }

    private String paper() {
        Paper paper = new Paper();
        int tables = any(3) == 0 ? 1 + any(7) : 1;
        int size = 6 + any(6);
        for (int t = 0; t < tables; t++) {
            for (int n = 0; n < (tables > 2 ? 4 : size); n++) {
                switch (any(tables > 2 ? 4 : 12)) {
                    case 0: break;
                    case 1: paper.unused(n, any(3) == 0 ? 65534 + any(3) : any(3)); break;
                    default: paper.object(n, any(6) == 0 ? any(3) : 0, any(4) == 0 ? stream() : value(0)); break;
                }
            }
            String more = any(3) == 0 ? "/" + one(NAMES[12], NAMES[13]) + " " + value(5) : "";
            paper.trailer(size + (any(8) == 0 ? any(3) - 1 : 0), "/Root 1 0 R" + more);
        }
        return paper.last().toString();
    }

    private String stream() {
        int filter = any(6);
        String bytes = streamBytes(filter);
        String length = any(6) == 0 ? number() + " 0 R" : String.valueOf(bytes.length() + (any(20) == 0 ? 1 : 0));
        String name = one("/Filter", "/Filter ", "/Filter\n");
        String pairs = filter == 0 ? "" : filter > 3 ? name + value(3) : name + one("/" + NAMES[8 + filter], "[/" + NAMES[8 + filter] + "]");
        if (filter == 1 && any(2) == 0) {
            int inner = any(4);
            bytes = hex(streamBytes(inner));
            length = String.valueOf(bytes.length());
            pairs = "/Filter[/Hex" + (inner == 0 ? "" : "/" + NAMES[8 + inner]) + "]";
        }
        return "<<" + one(pairs + "/Length " + length, "/Length " + length + pairs) + ">>" + one("", " ", "\n", "\r\n") + "stream\n" + bytes
                + "\nendstream";
    }

    private String hex(String s) {
        StringBuilder b = new StringBuilder();
        for (char c : s.toCharArray()) {
            b.append(String.format(any(2) == 0 ? "%02x" : "%02X", (int) c));
        }
        return b + one("", ">");
    }

    private String streamBytes(int filter) {
        StringBuilder b = new StringBuilder();
        int size = any(20);
        for (int k = 0; k < size; k++) {
            switch (filter) {
                case 1: b.append(String.format("%02x", any(256))); break;
                case 2:
                    int run = any(6);
                    b.append(any(2) == 0 ? (char) run + "abcdef".substring(0, run + 1) : (char) (129 + any(127)) + "x");
                    break;
                case 3: b.append(any(5) == 0 ? "z" : "9jqo^".replace('j', (char) (33 + any(85)))); break;
                default: b.append((char) any(256)); break;
            }
        }
        b.append(filter == 1 ? one("", ">") : filter == 2 ? "\u0080" : filter == 3 ? one("", "!!", "9jn", "9jqo", "q") + "~>" : "");
        return any(6) == 0 ? spoiled(b.toString(), 1) : b.toString();
    }

    private String value(int deep) {
        int many = deep > 9 ? 0 : any(4);
        StringBuilder b = new StringBuilder();
        switch (any(deep > 3 ? 9 : 16)) {
            case 0: return one("null", "true", "false");
            case 1: return String.valueOf(any(40) - 20);
            case 2: return one("007", "-0", "999999999", "1000000000", "-000000009");
            case 3: case 4: return "/" + one(NAMES);
            case 5: return "(" + one("", "a b", "\\(\\)\\\\", "\\101\\377", "\n\r\0", "x".repeat(99 + any(3))) + ")";
            case 6: return "<" + one("", "0aFf", "61".repeat(99 + any(3)), "6") + ">";
            case 7: case 8: return any(12) + one(" ", "\n", "  ") + (any(5) == 0 ? any(3) : 0) + " R";
            case 9: case 10: case 11:
                for (int k = 0; k < many; k++) {
                    b.append(value(deep + 1)).append(one(" ", " ", "\n", "\r"));
                }
                return "[" + b + "]";
            case 12: return page();
            default:
                for (int k = 0; k < many; k++) {
                    b.append('/').append(NAMES[(any(40) == 0 ? 0 : 4 * k) + any(4)]).append(' ').append(value(deep + 1)).append(one("", " ", "\n"));
                }
                return "<<" + b + ">>";
        }
    }

    private String page() {
        StringBuilder kids = new StringBuilder();
        int many = any(3);
        for (int k = 0; k < many; k++) {
            kids.append(any(12)).append(" 0 R ");
        }
        return one("<</Type/Page>>", "<</Type/Pages/Kids[" + kids + "]>>", "<</Pages " + any(8) + " 0 R>>");
    }

    private String spoiled(String text, int times) {
        StringBuilder b = new StringBuilder(text);
        for (int k = 0; k < times && b.length() > 0; k++) {
            int i = any(b.length());
            switch (any(4)) {
                case 0: b.setCharAt(i, one(" ", "\n", "\r", "0", "1", "/", "<", ">", "[", "]", "(", ")", "\\", "\0", "\u00ff", "R").charAt(0)); break;
                case 1: b.deleteCharAt(i); break;
                case 2: b.insert(i, one(" ", "\n", "0", "9", "/", "<", ">", "[", "]", "(", ")", "-")); break;
                default: b.setCharAt(i, b.charAt(any(b.length()))); break;
            }
        }
        return b.length() > 4000 ? b.substring(0, 4000) : b.toString();
    }
}
