/** Promises 14 to 16, 20 and 21: put, pour, free, count, state. */
public final class ChangeTest {
    public static void main(String[] args) {
        puts();
        putRefusals();
        putAndParts();
        pours();
        pouredBytes();
        frees();
        generations();
        counts();
        states();
        streamsKeepTheirBytes();
        manyChanges();
        Desk.finish();
    }

    private static void puts() {
        Desk d = Desk.opened(Paper.of("[1 2]", "/B", "(c)"));
        Desk.due("put 2", d.put(2, "<</X(y)>>"), 4);
        Desk.due("the value", d.go(2), 7);
        Desk.due("in it", d.item(0), 5);
        Desk.due("its bytes", d.bytes(0) + d.out(), "1y");
        Desk.due("1 stays", d.go(1), 6);
        Desk.due("its items", d.look(1), 2);
        Desk.due("3 stays", d.go(3), 5);
        Desk.due("its bytes", d.bytes(0) + d.out(), "1c");
        Desk.due("put 2 again", d.put(2, "7 0 R"), 4);
        Desk.due("the value", d.go(2), 8);
        Desk.due("put 4", d.put(4, "true"), 5);
        Desk.due("put 0", d.put(0, "false"), 5);
        Desk.due("0", d.go(0), 2);
        Desk.due("4", d.go(4), 1);
        Desk.due("in use", d.count(1), 5);
        Desk.due("changed", d.count(3), 3);
        Desk.due("put an equal value", d.put(1, "[1 2]"), 5);
        Desk.due("changed", d.count(3), 4);
        Desk.due("two words that came one behind the other", d.put(1, "12") + d.put(2, "0 R") + d.go(1), 5 - 4 + 3);
        d.go(1);
        Desk.due("are not one", d.look(1), 12);
        Desk.due("nor names", d.put(1, "/AB") + d.put(2, "1"), 10);
        d.go(1);
        Desk.due("AB", d.bytes(0) + d.out(), "2AB");
    }

    private static void putRefusals() {
        Desk none = new Desk();
        Desk.due("without a file", none.put(-1, ""), -2);
        Desk.due("without a file", none.pour(-1, ""), -2);
        Desk d = Desk.opened(Paper.of("1", "2"));
        for (int n : new int[] {-1, 4, 300, Integer.MIN_VALUE, Integer.MAX_VALUE}) {
            Desk.due("put " + n, d.put(n, "1"), -1);
            Desk.due("put " + n + " refused first", d.put(n, "]"), -1);
            Desk.due("pour " + n, d.pour(n, "1"), -1);
        }
        Desk.due("broken", d.put(1, "]"), -4);
        Desk.due("nothing changed", d.count(3), 0);
        Desk.due("SIZE", d.count(0), 3);
        Desk.due("broken at SIZE", d.put(3, ""), -4);
        Desk.due("SIZE", d.count(0), 3);
        Desk full = Desk.opened(new Paper().unused(299, 4).trailer("<</Size 300>>").last().toString());
        Desk.due("put 299", full.put(299, "1"), 300);
        Desk.due("its generation", full.state(299, 1), 4);
        Desk.due("put 300", full.put(300, "1"), -1);
        Desk.due("pour 300", full.pour(300, "1"), -1);
        Desk nearly = Desk.opened(new Paper().trailer("<</Size 299>>").last().toString());
        Desk.due("put 300 of 299", nearly.put(300, "1"), -1);
        Desk.due("put 299 of 299", nearly.put(299, "1"), 300);
    }

    private static String array(int parts) {
        return "[" + "1 ".repeat(parts - 1) + "]";
    }

    private static void putAndParts() {
        String big = "[" + array(60).repeat(14) + "]";
        Desk d = Desk.opened(Paper.of(big, array(59)));
        Desk.due("parts", d.count(5), 900);
        Desk.due("one more", d.put(3, "1"), -3);
        Desk.due("broken before full", d.put(3, "1 1"), -4);
        Desk.due("pour", d.pour(3, "1"), -3);
        Desk.due("SIZE", d.count(0), 3);
        Desk.due("as many", d.put(2, "<</A" + array(58) + ">>"), 3);
        Desk.due("one too many", d.put(2, "<</A" + array(59) + ">>"), -3);
        Desk.due("the value stays", d.go(2), 7);
        Desk.due("two less", d.put(2, array(57)), 3);
        Desk.due("parts", d.count(5), 898);
        Desk.due("pour", d.pour(3, "abc"), 4);
        Desk.due("parts", d.count(5), 900);
        Desk.due("put", d.put(4, "null"), -3);
        Desk.due("pour in its place", d.pour(3, "abcd"), 4);
        Desk.due("free", d.free(1), 2);
        Desk.due("parts", d.count(5), 59);
        Desk.due("901 parts in one", d.put(1, "[" + array(60).repeat(14) + array(60) + "]"), -3);
        Desk.due("the others", d.go(2) + 100 * d.go(3), 906);
    }

    private static void pours() {
        Desk d = Desk.opened(Paper.of("1"));
        Desk.due("pour 2", d.pour(2, "a\0\u00ff>>"), 3);
        Desk.due("go", d.go(2), 9);
        Desk.due("its bytes", d.look(1), 5);
        Desk.due("its names", d.look(2), 1);
        Desk.due("its bytes", d.bytes(-1) + d.out(), "5a\0\u00ff>>");
        Desk.due("its name", d.bytes(0) + d.out(), "6Length");
        Desk.due("its Length", d.item(0), 3);
        Desk.due("its Length", d.look(1), 5);
        d.go(2);
        Desk.due("decoded", d.decode() + d.out(), "5a\0\u00ff>>");
        Desk.due("parts", d.count(5), 3);
        Desk.due("pour nothing", d.pour(1, ""), 3);
        Desk.due("go", d.go(1), 9);
        Desk.due("no bytes", d.look(1), 0);
        Desk.due("as they are", d.bytes(-1), 0);
        Desk.due("decoded", d.decode(), 0);
        Desk.due("pour 0", d.pour(0, "x"), 3);
        Desk.due("in use", d.count(1), 3);
        Desk.due("changed", d.count(3), 3);
    }

    private static void pouredBytes() {
        Desk d = Desk.opened(Paper.of(Paper.stream("", "a".repeat(500)), "2"));
        Desk.due("4000 bytes", d.pour(2, "b".repeat(4000)), 3);
        Desk.due("one more", d.pour(3, "c"), -3);
        Desk.due("none more", d.pour(3, ""), 4);
        Desk.due("in its place", d.pour(2, "d".repeat(3999)), 4);
        Desk.due("one more", d.pour(1, "e"), 4);
        Desk.due("two more", d.pour(4, "f"), -3);
        Desk.due("SIZE", d.count(0), 4);
        Desk freed = Desk.opened(Paper.of("1", "2"));
        freed.pour(1, "b".repeat(2000));
        freed.pour(2, "c".repeat(2000));
        Desk.due("full", freed.pour(3, "d"), -3);
        freed.free(1);
        Desk.due("a freed one is no value", freed.pour(3, "d".repeat(2000)), 4);
        Desk.due("full", freed.pour(1, "d"), -3);
        freed.put(2, "1");
        Desk.due("nor is one that was put over", freed.pour(1, "d".repeat(100)), 4);
        Desk young = Desk.opened(Paper.of("1", "2"));
        young.pour(2, "b");
        young.open(Paper.of("1"));
        young.open(Paper.of("1", Paper.stream("", "c".repeat(3000))));
        Desk.due("nor one of another file", young.pour(1, "b".repeat(1500)), 3);
        Desk zero = Desk.opened(Paper.of("1"));
        zero.pour(0, "b".repeat(4000));
        Desk.due("that of number 0 is one", zero.pour(1, "b"), -3);
    }

    private static void frees() {
        Desk d = Desk.opened(Paper.of("1", "[2 3]", "(4)"));
        Desk.due("free 2", d.free(2), 2);
        Desk.due("again", d.free(2), -2);
        Desk.due("0", d.free(0), -2);
        Desk.due("above", d.free(4), -2);
        Desk.due("below", d.free(-1), -2);
        Desk.due("far", d.free(Integer.MAX_VALUE), -2);
        Desk.due("parts", d.count(5), 2);
        Desk.due("changed", d.count(3), 1);
        Desk.due("the last", d.go(3), 5);
        Desk.due("its bytes", d.bytes(0) + d.out(), "14");
        Desk.due("free 1", d.free(1), 1);
        Desk.due("free 3", d.free(3), 0);
        Desk.due("SIZE", d.count(0), 4);
        Desk.due("put 4", d.put(4, "1"), 5);
        Desk.due("free 4", d.free(4), 0);
        Desk.due("SIZE stays", d.count(0), 5);
        Desk.due("changed", d.count(3), 4);
        Desk.due("put 5", d.put(5, "1"), 6);
    }

    private static void generations() {
        Desk d = Desk.opened(new Paper().object(0, 65534, "1").object(1, 65535, "1").object(2, 99999, "1").unused(3, 7)
                .unused(4, 99999).trailer("<</Size 6>>").last().toString());
        int[] had = {65534, 65535, 99999, 7, 99999, 0};
        int[] freed = {65535, 65535, 99999, 8, 99999, 1};
        for (int n = 0; n < 6; n++) {
            Desk.due("generation of " + n, d.state(n, 1), had[n]);
            Desk.due("put " + n, d.put(n, "2"), 6);
            Desk.due("generation it had " + n, d.state(n, 1), had[n]);
            d.free(n);
            Desk.due("generation it was freed with " + n, d.state(n, 1), freed[n]);
            d.pour(n, "2");
            Desk.due("and gets " + n, d.state(n, 1), freed[n]);
        }
    }

    private static void counts() {
        Desk none = new Desk();
        Desk.due("refused first", none.count(6), -1);
        Desk.due("refused first", none.count(-1), -1);
        String text = Paper.sample();
        Desk d = Desk.opened(text);
        int[] want = {9, 8, 1, 0, text.length(), 39};
        for (int what = 0; what < 6; what++) {
            Desk.due("count " + what, d.count(what), want[what]);
        }
        Desk.due("count 6", d.count(6), -1);
        Desk.due("count MIN", d.count(Integer.MIN_VALUE), -1);
        d.put(9, "[1[2]]");
        d.free(5);
        d.pour(3, "x");
        int[] then = {10, 8, 1, 3, text.length(), 39 + 4 - 12 - 5 + 2};
        for (int what = 0; what < 6; what++) {
            Desk.due("then count " + what, d.count(what), then[what]);
        }
    }

    private static void states() {
        Desk none = new Desk();
        Desk.due("without a file", none.state(0, 0), -2);
        Desk.due("refused first", none.state(0, 3), -1);
        Desk d = Desk.opened(new Paper().object(1, 5, "1").unused(2, 6).trailer("<</Size 4>>").last().toString());
        int[][] want = {{0, 0, 0}, {1, 5, 0}, {0, 6, 0}, {0, 0, 0}};
        int[][] then = {{0, 0, 0}, {0, 6, 1}, {1, 6, 1}, {0, 0, 0}, {1, 0, 1}};
        for (int n = 0; n < 4; n++) {
            for (int what = 0; what < 3; what++) {
                Desk.due("state " + n + " " + what, d.state(n, what), want[n][what]);
            }
        }
        d.free(1);
        d.put(2, "1");
        d.put(4, "1");
        for (int n = 0; n < 5; n++) {
            for (int what = 0; what < 3; what++) {
                Desk.due("then state " + n + " " + what, d.state(n, what), then[n][what]);
            }
        }
        Desk.due("at SIZE", d.state(5, 0), -2);
        Desk.due("below 0", d.state(-1, 0), -2);
        Desk.due("far", d.state(Integer.MIN_VALUE, 1), -2);
        Desk.due("another what", d.state(9, 3), -1);
        Desk.due("another what", d.state(0, -1), -1);
    }

    private static void streamsKeepTheirBytes() {
        Desk d = Desk.opened(Paper.sample());
        d.put(7, "3");
        d.go(6);
        Desk.due("as long as it was read", d.look(1), 14);
        Desk.due("decoded", d.decode() + d.out(), "7abczzzz");
        d.free(7);
        d.go(6);
        Desk.due("as long as it was read", d.look(1), 14);
    }

    /** Values that come and go do not use up anything. */
    private static void manyChanges() {
        Desk d = Desk.opened(Paper.of("1"));
        for (int k = 0; k < 90; k++) {
            Desk.due("pour", d.pour(1 + k % 3, ""), Math.max(2, Math.min(k, 2) + 2));
            Desk.due("put", d.put(1 + k % 3, "[[]]"), Math.max(2, Math.min(k, 2) + 2));
        }
        Desk.due("parts", d.count(5), 6);
        Desk.due("in use", d.count(1), 3);
    }
}
