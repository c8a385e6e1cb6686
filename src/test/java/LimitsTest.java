import java.nio.charset.StandardCharsets;
import java.util.ArrayList;
import java.util.List;
import java.util.Random;

/**
 * Runs drawn by lot, as in ModelTest, but all of them near the limits: 300 objects, 900 parts, 4000
 * bytes poured and 6000 bytes saved, one above and one below.
 */
public final class LimitsTest {
    private static final int RUNS = 400;
    private static final int CALLS = 512;
    private static int wrong = 0;
    private static final int[] SEEN = new int[8];

    private final Random lot;
    private final int run;
    private final PaperFile x = new PaperFile();
    private final Model model = new Model();
    private final int[] poured = new int[302];
    private final List<String> calls = new ArrayList<>();
    private int used = 0;

    private LimitsTest(int run) {
        this.run = run;
        // Seeds side by side would begin with the same draws.
        lot = new Random(run * 0x9E3779B97F4A7C15L);
    }

    public static void main(String[] args) {
        int runs = args.length > 0 ? Integer.parseInt(args[0]) : RUNS;
        for (int run = 0; run < runs && wrong < 10; run++) {
            new LimitsTest(run).play();
        }
        String[] names = {"put REFUSED", "put FULL", "900 parts", "pour FULL", "4000 bytes poured", "save FULL", "saved above 5900", "SIZE 300"};
        for (int k = 0; k < names.length; k++) {
            // Limits that no run comes to are not tested.
            if (SEEN[k] == 0) {
                System.out.println("no run came to " + names[k]);
                wrong++;
            }
        }
        System.exit(wrong == 0 ? 0 : 1);
    }

    private int due(String call, int got, int want) {
        used++;
        calls.add(call + " -> " + want);
        if (got != want) {
            wrong++;
            System.out.println("run " + run + ": " + call + " answered " + got + ", due is " + want);
            System.out.println("behind " + calls.subList(Math.max(0, calls.size() - 12), calls.size()));
        }
        return want;
    }

    private int any(int n) {
        return lot.nextInt(n);
    }

    private void tape(String text) {
        byte[] b = text.getBytes(StandardCharsets.ISO_8859_1);
        for (int at = 0; at < b.length; at += 20) {
            int[] w = new int[5];
            for (int k = 0; k < 20; k++) {
                w[k / 4] = w[k / 4] << 8 | (at + k < b.length ? b[at + k] & 255 : any(256));
            }
            due("feed", x.feed(w[0], w[1], w[2], w[3], w[4]), model.feed(w[0], w[1], w[2], w[3], w[4]));
        }
        due("end", x.end(b.length), model.end(b.length));
    }

    private boolean hasCallsFor(int bytes) {
        return used + bytes / 20 + 10 < CALLS;
    }

    private void play() {
        int size = any(2) == 0 ? 296 + any(5) : 1 + any(5);
        Paper paper = new Paper().raw("%".repeat(any(3) == 0 ? 1500 + any(400) : any(20))).raw("\n");
        for (int k = 0; k < Math.min(3, size); k++) {
            int n = k == 2 ? size - 1 : k;
            paper.object(n, any(3) == 0 ? 65533 + any(4) : any(2), any(4) == 0 ? Paper.stream("", "s".repeat(any(50))) : "[" + k + "]");
        }
        tape(paper.trailer("<</Size " + size + ">>").last().toString());
        due("open", x.open(), model.open());
        while (used < CALLS - 12 && wrong == 0) {
            call(any(7));
        }
        SEEN[7] += model.count(0) == 300 ? 1 : 0;
    }

    private int number() {
        int size = model.count(0);
        int[] near = {-1, 0, 1, 2, size - 2, size - 1, size, size, size + 1, 299, 300};
        return near[any(near.length)];
    }

    private void call(int which) {
        int n = number();
        switch (which) {
            case 0: case 1: put(n); break;
            case 2: pour(n); break;
            case 3: free(n); break;
            case 4: save(); break;
            case 5: state(n, any(3)); break;
            default: due("go " + n, x.go(n), model.go(n)); due("look", x.look(1), model.look(1)); break;
        }
        for (int what = 0; what < 6; what++) {
            if (x.count(what) != model.count(what)) {
                due("count " + what, x.count(what), model.count(what));
            }
        }
        SEEN[2] += model.count(5) == 900 ? 1 : 0;
    }

    private void state(int n, int what) {
        due("state " + n + " " + what, x.state(n, what), model.state(n, what));
    }

    private void put(int n) {
        int parts = any(3) == 0 ? 900 - model.count(5) + any(5) - 2 : 1 + any(3);
        String value = ChangeEdgeTest.array(Math.max(1, Math.min(parts, 1000)));
        if (!hasCallsFor(value.length())) {
            return;
        }
        tape(value);
        int answer = due("put " + n + " of " + parts, x.put(n), model.put(n));
        SEEN[0] += answer == -1 ? 1 : 0;
        SEEN[1] += answer == -3 ? 1 : 0;
        if (answer >= 0) {
            poured[n] = 0;
        }
    }

    private int pouredBut(int n) {
        int sum = 0;
        for (int k = 0; k < poured.length; k++) {
            sum += k == n ? 0 : poured[k];
        }
        return sum;
    }

    private void pour(int n) {
        int size = any(2) == 0 ? Math.max(0, Math.min(4000, 4000 - pouredBut(n) + any(3) - 1)) : any(30);
        if (!hasCallsFor(size)) {
            return;
        }
        tape("p".repeat(size));
        int answer = due("pour " + n + " of " + size, x.pour(n), model.pour(n));
        SEEN[3] += answer == -3 ? 1 : 0;
        if (answer >= 0) {
            poured[n] = size;
            SEEN[4] += pouredBut(-1) == 4000 ? 1 : 0;
        }
    }

    private void free(int n) {
        if (due("free " + n, x.free(n), model.free(n)) >= 0) {
            poured[n] = 0;
        }
    }

    private void save() {
        int answer = due("save", x.save(), model.save());
        SEEN[5] += answer == -3 ? 1 : 0;
        SEEN[6] += answer > 5900 ? 1 : 0;
        for (int i = 0; i <= model.octet(-1); i++) {
            // Beside the run: what OUT has.
            if (x.octet(i) != model.octet(i)) {
                due("octet " + i, x.octet(i), model.octet(i));
                return;
            }
        }
    }
}
