import java.nio.charset.StandardCharsets;
import java.util.Random;

/**
 * Texts with as many parts as so many bytes can have, in trailers (which no limit of parts binds)
 * and in values: they are read alike whatever was opened and put before.
 */
public final class DenseTest {
    private static final int RUNS = 150;
    private static final int CALLS = 512;
    private static final String HEAD = "xref\n0 0\ntrailer\n";

    private final Random lot;
    private final PaperFile x = new PaperFile();
    private final Model model = new Model();
    private int used = 0;
    private boolean wrong = false;

    private DenseTest(int run) {
        // Seeds side by side would begin with the same draws.
        lot = new Random(run * 0x9E3779B97F4A7C15L);
    }

    public static void main(String[] args) {
        reopened();
        reopenedBehind900Parts();
        objectsOf900Parts();
        fullOrBroken();
        int runs = args.length > 0 ? Integer.parseInt(args[0]) : RUNS;
        Desk.says("runs drawn by lot");
        for (int run = 0; run < runs; run++) {
            new DenseTest(run).play(run);
        }
        Desk.finish();
    }

    /** Three parts for four bytes, which is the most: between two words stands a byte that is none. */
    private static String row(int pairs) {
        return "[" + "1[1]".repeat(pairs) + "]";
    }

    private static String rows(int many) {
        return "[" + ("1" + row(30)).repeat(many) + "]";
    }

    /**
     * So many tables, each beginning in a string of the one before it; all strings end with one
     * byte, and behind that all trailers have the same names.
     */
    private static String nested(int tables, String more) {
        StringBuilder text = new StringBuilder("%PDF-1.0").append(HEAD).append("<<");
        for (int t = 1; t < tables; t++) {
            // The older table begins behind the ( of this name's string.
            String name = t == 1 ? "/X(" : "/X\\(";
            int place = text.length() + "/Prev 00".length() + name.length();
            text.append("/Prev ").append(place).append(name).append(HEAD).append("<<");
        }
        text.append(tables == 1 ? "/K()" : "/K\\()").append(more).append(">>\n");
        return text + "startxref\n8\n%%EOF\n";
    }

    private static void reopened() {
        Desk.says("The TAPE as a text becomes THE FILE, without changes: 0");
        for (int tables = 1; tables <= 3; tables++) {
            String text = nested(tables, "/Size 1/A" + rows(30) + "/B" + row(30));
            Desk d = Desk.opened(text);
            Desk.due("put", d.put(0, rows(9)), 1);
            Desk.due("open again, " + tables + " tables", d.open(text), 0);
            looksLike(d, text, tables);
        }
    }

    private static void looksLike(Desk d, String text, int tables) {
        Desk.due("tables", d.count(2), tables);
        Desk.due("changes", d.count(3), 0);
        Desk.due("bytes", d.count(4), text.length());
        Desk.due("parts", d.count(5), 0);
        Desk.due("point", d.look(0), PaperFile.NONE);
        Desk.due("trailer", d.trailer(), 7);
        Desk.due("the last name", d.find("B"), 6);
        Desk.due("its items", d.look(1), 60);
        Desk.due("its last item", d.item(59), 6);
        Desk.due("the item in it", d.item(0), 3);
        Desk.due("the INT", d.look(1), 1);
        Desk.due("save", d.save(), text.length());
        Desk.due("OUT", d.out(), text);
    }

    private static void reopenedBehind900Parts() {
        Desk.says("The TAPE as a text becomes THE FILE, without changes: 0");
        String text = nested(2, "/Size 1/A" + rows(30) + "/B" + row(27));
        Desk d = Desk.opened(text);
        // 1 + 9 * 92 are 829, 1 + 23 * 3 are 70, and one is the last.
        Desk.due("put", d.put(0, rows(9)), 1);
        Desk.due("put", d.put(1, row(23)), 2);
        Desk.due("put", d.put(2, "1"), 3);
        Desk.due("parts", d.count(5), 900);
        Desk.due("open again", d.open(text), 0);
        Desk.due("parts", d.count(5), 0);
        Desk.due("SIZE", d.count(0), 1);
        d.trailer();
        d.find("B");
        Desk.due("items of B", d.look(1), 54);
    }

    private static void objectsOf900Parts() {
        Desk.says("if all of them together have more than 900 PARTS (.. trailers are none ..)");
        for (int more = 0; more <= 1; more++) {
            String trailer = "<</Size 3/A" + rows(19) + "/B" + row(30) + ">>";
            String text = new Paper().object(0, rows(9)).object(1, row(23)).object(2, more == 0 ? "1" : "[1]").trailer(trailer).last().toString();
            Desk d = new Desk();
            for (int times = 0; times < 2; times++) {
                Desk.due("open of " + (900 + more) + " parts", d.open(text), more == 0 ? 0 : 5);
                Desk.due("parts", d.count(5), more == 0 ? 900 : 0);
                Desk.due("put", d.put(2, "[1]"), more == 0 ? PaperFile.FULL : PaperFile.NONE);
                Desk.due("put", d.put(2, "2"), more == 0 ? 3 : PaperFile.NONE);
            }
        }
    }

    private static void fullOrBroken() {
        Desk.says("BROKEN if it is no OBJECT; FULL if all objects together had more than 900 parts");
        String text = nested(2, "/Size 1/A" + rows(30) + "/B" + row(27));
        String value = "[" + rows(30) + row(30) + row(18) + "]";
        for (int n = 0; n <= 1; n++) {
            String what = "put " + n + " of " + value.length() + " bytes";
            Desk d = Desk.opened(text);
            d.put(0, rows(9));
            d.tape(value);
            int number = n;
            Desk.due(what, d.call(x -> x.put(number)), PaperFile.FULL);
            d = Desk.opened(text);
            d.put(0, rows(9));
            d.tape(value.substring(0, value.length() - 1));
            Desk.due(what + ", less one", d.call(x -> x.put(number)), PaperFile.BROKEN);
        }
    }

    // Runs drawn by lot, with a model beside.

    private int any(int n) {
        return lot.nextInt(n);
    }

    private void due(String what, int got, int want) {
        used++;
        wrong = wrong || got != want;
        Desk.due(what, got, want);
    }

    private void play(int run) {
        Desk.says("run " + run);
        String[] texts = {file(2000 + any(1900)), file(1000 + any(1500)), file(any(500))};
        open(texts[any(3)]);
        while (used < CALLS - 30 && !wrong) {
            switch (any(8)) {
                case 0: open(texts[any(3)]); break;
                case 1: case 2: put(any(4)); break;
                case 3: int n = any(4); due("free " + n, x.free(n), model.free(n)); break;
                default: walk(); break;
            }
        }
    }

    private boolean tape(String text) {
        byte[] b = text.getBytes(StandardCharsets.ISO_8859_1);
        if (used + b.length / 20 > CALLS - 25) {
            return false;
        }
        for (int at = 0; at < b.length; at += 20) {
            int[] w = new int[5];
            for (int k = 0; k < 20; k++) {
                w[k / 4] = w[k / 4] << 8 | (at + k < b.length ? b[at + k] & 255 : any(256));
            }
            due("feed", x.feed(w[0], w[1], w[2], w[3], w[4]), model.feed(w[0], w[1], w[2], w[3], w[4]));
        }
        due("end", x.end(b.length), model.end(b.length));
        return true;
    }

    private void open(String text) {
        if (tape(text)) {
            due("open", x.open(), model.open());
            for (int what = 0; what < 6; what++) {
                due("count " + what, x.count(what), model.count(what));
            }
        }
    }

    private void put(int n) {
        String value = value(any(3) == 0 ? any(3500) : any(900));
        if (tape(any(6) == 0 ? value.substring(0, any(value.length())) : value)) {
            due("put " + n, x.put(n), model.put(n));
            due("count 5", x.count(5), model.count(5));
        }
    }

    private void walk() {
        int n = any(5);
        due("go " + n, n == 4 ? x.trailer() : x.go(n), n == 4 ? model.trailer() : model.go(n));
        for (int steps = any(6); steps > 0; steps--) {
            int k = any(any(2) == 0 ? 5 : 60);
            due("item " + k, x.item(k), model.item(k));
        }
        int what = any(3);
        due("look " + what, x.look(what), model.look(what));
    }

    private String file(int bytes) {
        String dense = "/Size " + (1 + any(4)) + "/A" + value(bytes) + (any(2) == 0 ? "" : "/B" + row(any(30)));
        String text = nested(1 + any(3), dense);
        return text.length() > 4000 ? nested(1, "/Size 1") : text;
    }

    /** An ARRAY of about so many bytes. */
    private String value(int bytes) {
        StringBuilder text = new StringBuilder();
        array(text, bytes, 1);
        return text.toString();
    }

    private void array(StringBuilder text, int bytes, int deep) {
        int end = text.length() + bytes;
        text.append('[');
        // Items must be long enough for 60 of them to fill it.
        int each = bytes / (30 + any(30)) + 1;
        for (int k = 0; k < 60 && text.length() < end; k++) {
            boolean word = Character.isLetterOrDigit(text.charAt(text.length() - 1));
            if (!word && (any(8) > 0 || deep == 8)) {
                text.append("1n/".charAt(any(20) == 0 ? any(3) : 0));
                text.append(text.charAt(text.length() - 1) == 'n' ? "ull" : text.charAt(text.length() - 1) == '/' ? "N" : "");
            } else if (deep < 8 && any(8) > 0) {
                array(text, Math.max(3, each + any(3) - 1), deep + 1);
            } else {
                text.append(any(2) == 0 ? "()" : "<>");
            }
        }
        text.append(']');
    }
}
