import java.nio.charset.StandardCharsets;
import java.util.ArrayList;
import java.util.List;
import java.util.function.ToIntFunction;

/**
 * A PaperFile at work: texts go to the TAPE as a whole, and OUT comes back as a text. All calls are
 * kept, so that a long OUT can be read from several objects that were used alike, each of them
 * within its 512 calls.
 */
final class Desk {
    private static final int CALLS = 512;
    private static int wrong = 0;
    private static String sentence = "";

    final PaperFile file = new PaperFile();
    private final List<ToIntFunction<PaperFile>> calls = new ArrayList<>();

    /** The words of the document that the answers from here on rest on. */
    static void says(String words) {
        sentence = words;
    }

    static void due(String what, Object got, Object want) {
        if (!got.equals(want)) {
            wrong++;
            System.out.println((sentence.isEmpty() ? "" : "\"" + sentence + "\": ") + what + " answered " + got + ", due is " + want);
        }
    }

    static void finish() {
        if (wrong != 0) {
            System.out.println(wrong + " answers are not as due");
            System.exit(1);
        }
    }

    int call(ToIntFunction<PaperFile> call) {
        calls.add(call);
        if (calls.size() > CALLS) {
            throw new IllegalStateException("too many calls for one object");
        }
        return call.applyAsInt(file);
    }

    /** The text comes to the TAPE, behind what is there. */
    Desk tape(String text) {
        byte[] bytes = text.getBytes(StandardCharsets.ISO_8859_1);
        int before = 0;
        for (int at = 0; at < bytes.length; at += 20) {
            int[] five = new int[5];
            for (int k = 0; k < 20; k++) {
                int b = at + k < bytes.length ? bytes[at + k] & 255 : 0;
                five[k / 4] = five[k / 4] << 8 | b;
            }
            before = call(x -> x.feed(five[0], five[1], five[2], five[3], five[4])) - 20 - at;
        }
        int size = before + bytes.length;
        call(x -> x.end(size));
        return this;
    }

    int open(String text) {
        return tape(text).call(PaperFile::open);
    }

    int put(int n, String text) {
        return tape(text).call(x -> x.put(n));
    }

    int pour(int n, String text) {
        return tape(text).call(x -> x.pour(n));
    }

    int find(String name) {
        return tape(name).call(PaperFile::find);
    }

    int go(int n) {
        return call(x -> x.go(n));
    }

    int item(int k) {
        return call(x -> x.item(k));
    }

    int look(int what) {
        return call(x -> x.look(what));
    }

    int bytes(int k) {
        return call(x -> x.bytes(k));
    }

    int decode() {
        return call(PaperFile::decode);
    }

    int free(int n) {
        return call(x -> x.free(n));
    }

    int save() {
        return call(PaperFile::save);
    }

    int count(int what) {
        return call(x -> x.count(what));
    }

    int state(int n, int what) {
        return call(x -> x.state(n, what));
    }

    int trailer() {
        return call(PaperFile::trailer);
    }

    int follow() {
        return call(PaperFile::follow);
    }

    int octet(int i) {
        return call(x -> x.octet(i));
    }

    int end(int n) {
        return call(x -> x.end(n));
    }

    int pages() {
        return call(PaperFile::pages);
    }

    int page(int k) {
        return call(x -> x.page(k));
    }

    /** OUT as a text. */
    String out() {
        int size = file.octet(-1);
        int slice = callsLeft();
        if (slice < 1) {
            throw new IllegalStateException("too many calls for one object");
        }
        StringBuilder text = new StringBuilder();
        for (int from = 0; from < size; from += slice) {
            PaperFile alike = again();
            for (int i = from; i < Math.min(size, from + slice); i++) {
                text.append((char) alike.octet(i));
            }
        }
        return text.toString();
    }

    /** The call is one that leaves the TAPE alone, and all else, too, whatever it answers. */
    void stays(String what, int want, ToIntFunction<PaperFile> call) {
        String tape = Seen.tapeOf(this);
        staysBut(tape, what, want, call);
    }

    /** The call is one that reads the TAPE: that is empty then, and all else is as it was. */
    void staysButTape(String what, int want, ToIntFunction<PaperFile> call) {
        staysBut("", what, want, call);
    }

    private void staysBut(String tape, String what, int want, ToIntFunction<PaperFile> call) {
        String before = Seen.allOf(this);
        due(what, call(call), want);
        due(what + ": the TAPE behind it", Seen.tapeOf(this), tape);
        String behind = Seen.allOf(this);
        if (!behind.equals(before)) {
            int at = 0;
            while (at < Math.min(before.length(), behind.length()) && before.charAt(at) == behind.charAt(at)) {
                at++;
            }
            due(what + ": what was to stay", near(behind, at), near(before, at));
        }
    }

    private static String near(String text, int at) {
        return text.substring(Math.max(0, at - 60), Math.min(text.length(), at + 60));
    }

    /** How many calls there may still be of one object. */
    int callsLeft() {
        return CALLS - calls.size();
    }

    /** Another object that was used alike. */
    PaperFile again() {
        PaperFile alike = new PaperFile();
        for (ToIntFunction<PaperFile> call : calls) {
            call.applyAsInt(alike);
        }
        return alike;
    }

    static Desk opened(String text) {
        Desk desk = new Desk();
        due("open", desk.open(text), 0);
        return desk;
    }
}
