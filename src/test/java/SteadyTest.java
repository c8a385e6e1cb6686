import java.lang.management.ManagementFactory;
import java.util.Random;

/** No call throws or makes anything, whatever it is asked and however often. */
public final class SteadyTest {
    private static final int[] EDGES = {Integer.MIN_VALUE, -300, -3, -2, -1, 0, 1, 2, 3, 4, 5, 6, 7, 8, 9, 10, 100, 299, 300, 301,
        4000, 6000, Integer.MAX_VALUE};
    private static final String[] TEXTS = {Paper.sample(), Paper.of("[1[2]]", "(x)"), "<</A[1 0 R]>>", "Type", "Length", "<<", "/A",
        "%PDF-1.4", "[" + "1()".repeat(30) + "]", ""};

    public static void main(String[] args) {
        for (int run = 0; run < 40; run++) {
            anyCalls(new PaperFile(), new Random(run), 4000);
        }
        callsMakeNothing();
        Desk.finish();
    }

    private static void anyCalls(PaperFile x, Random lot, int many) {
        for (int k = 0; k < many; k++) {
            int a = EDGES[lot.nextInt(EDGES.length)];
            int b = EDGES[lot.nextInt(EDGES.length)];
            try {
                call(x, lot.nextInt(24), a, b, lot);
            } catch (RuntimeException | StackOverflowError e) {
                Desk.due("a call with " + a + " and " + b, e.toString(), "no exception");
            }
        }
    }

    private static int call(PaperFile x, int which, int a, int b, Random lot) {
        switch (which) {
            case 0: return x.feed(a, b, lot.nextInt(), a, b);
            case 1: return x.end(a);
            case 2: return x.open();
            case 3: return x.go(a);
            case 4: return x.trailer();
            case 5: return x.item(a);
            case 6: return x.find();
            case 7: return x.follow();
            case 8: return x.look(a);
            case 9: return x.bytes(a);
            case 10: return x.decode();
            case 11: return x.octet(a);
            case 12: return x.put(a);
            case 13: return x.pour(a);
            case 14: return x.free(a);
            case 15: return x.save();
            case 16: return x.pages();
            case 17: return x.page(a);
            case 18: return x.count(a);
            case 19: return x.state(a, b);
            default: return feed(x, TEXTS[lot.nextInt(TEXTS.length)]);
        }
    }

    private static int feed(PaperFile x, String text) {
        x.end(0);
        for (int at = 0; at < text.length(); at += 20) {
            x.feed(four(text, at), four(text, at + 4), four(text, at + 8), four(text, at + 12), four(text, at + 16));
        }
        return x.end(text.length());
    }

    private static int four(String text, int at) {
        int bytes = 0;
        for (int k = at; k < at + 4; k++) {
            bytes = bytes << 8 | (k < text.length() ? text.charAt(k) : 0);
        }
        return bytes;
    }

    private static void callsMakeNothing() {
        Random lot = new Random(7);
        long least = Long.MAX_VALUE;
        // Only the first rounds make something: what Java itself makes when code is new.
        for (int round = 0; round < 5; round++) {
            PaperFile x = new PaperFile();
            long before = made();
            feed(x, TEXTS[0]);
            x.open();
            for (int n = 0; n < 460; n++) {
                call(x, n % 20, n % 9, n % 3, lot);
            }
            least = Math.min(least, made() - before);
        }
        Desk.due("500 calls make less than 1000 bytes", least < 1000, true);
    }

    private static long made() {
        com.sun.management.ThreadMXBean bean = (com.sun.management.ThreadMXBean) ManagementFactory.getThreadMXBean();
        return bean.getThreadAllocatedBytes(Thread.currentThread().getId());
    }
}
