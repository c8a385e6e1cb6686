/** Promises 5 to 11: go, trailer, item, find, follow, look, bytes. */
public final class PointTest {
    public static void main(String[] args) {
        goes();
        trailer();
        items();
        finds();
        follows();
        looks();
        bytes();
        noneBehindChanges();
        Desk.finish();
    }

    private static void goes() {
        Desk d = Desk.opened(Paper.of("null", "true", "false", "7", "/A", "(a)", "[1]", "<</A 1>>", "7 0 R",
                Paper.stream("", "abc")));
        for (int kind = 0; kind <= 9; kind++) {
            Desk.due("go", d.go(kind + 1), kind);
            Desk.due("look", d.look(0), kind);
            Desk.due("a free one", d.go(0), -2);
            Desk.due("above", d.go(11), -2);
            Desk.due("below", d.go(-1), -2);
            Desk.due("far above", d.go(Integer.MAX_VALUE), -2);
            Desk.due("far below", d.go(Integer.MIN_VALUE), -2);
            Desk.due("it stays", d.look(0), kind);
        }
        d.free(10);
        Desk.due("a freed one", d.go(10), -2);
        Desk.due("put", d.put(11, "[]"), 12);
        Desk.due("a new one", d.go(11), 6);
    }

    private static void trailer() {
        Desk d = Desk.opened(new Paper().unused(0, 0).trailer("<</Size 4/Old 1>>").trailer(5, "/Young 2").last().toString());
        Desk.due("trailer", d.call(PaperFile::trailer), 7);
        Desk.due("names", d.look(1), 3);
        Desk.due("first name", d.bytes(0) + d.out(), "4Size");
        Desk.due("second name", d.bytes(1) + d.out(), "5Young");
        Desk.due("third name", d.bytes(2) + d.out(), "4Prev");
        Desk.due("an old name", d.find("Old"), -2);
        Desk.due("a young name", d.find("Young"), 3);
        Desk.due("its value", d.look(1), 2);
        Desk.due("put", d.put(5, "1"), 6);
        d.call(PaperFile::trailer);
        d.find("Size");
        Desk.due("Size as it was read", d.look(1), 5);
    }

    private static void items() {
        Desk d = Desk.opened(Paper.of("[1[2(x)]/A<</B[]/C null>>3 0 R true]", "<</A 1/B[2]/C<</D/E>>>>", Paper.stream("/X[4]", "ab"), "5"));
        int[] kinds = {3, 6, 4, 7, 8, 1};
        for (int k = 0; k < 6; k++) {
            d.go(1);
            Desk.due("item " + k, d.item(k), kinds[k]);
        }
        d.go(1);
        Desk.due("item 6", d.item(6), -2);
        Desk.due("item -1", d.item(-1), -2);
        Desk.due("item MIN", d.item(Integer.MIN_VALUE), -2);
        Desk.due("it stays", d.look(1), 6);
        Desk.due("item 3", d.item(3), 7);
        Desk.due("item 1 of it", d.item(1), 0);
        Desk.due("an item of null", d.item(0), -2);
        d.go(1);
        d.item(1);
        Desk.due("item 1 of 1", d.item(1), 5);
        Desk.due("an item of a STRING", d.item(0), -2);
        d.go(2);
        Desk.due("second name's value", d.item(1), 6);
        Desk.due("its item", d.item(0), 3);
        Desk.due("its value", d.look(1), 2);
        d.go(2);
        Desk.due("third name's value", d.item(2), 7);
        Desk.due("its value", d.item(0), 4);
        d.go(3);
        Desk.due("a STREAM's first", d.item(0), 6);
        d.go(3);
        Desk.due("a STREAM's second", d.item(1), 3);
        Desk.due("its Length", d.look(1), 2);
        d.go(3);
        Desk.due("a STREAM's third", d.item(2), -2);
        d.go(4);
        Desk.due("an item of an INT", d.item(0), -2);
        Desk.due("it stays", d.look(1), 5);
    }

    private static void finds() {
        Desk d = Desk.opened(Paper.of("<</A 1/AB/C/ABC(x)>>", Paper.stream("/X null", "ab"), "[/A 1]"));
        d.go(1);
        Desk.due("a name that is not there", d.find("B"), -2);
        Desk.due("a value is no name", d.find("C"), -2);
        Desk.due("nothing", d.find(""), -2);
        Desk.due("with a /", d.find("/A"), -2);
        Desk.due("with white", d.find("A "), -2);
        Desk.due("a longer one", d.find("ABCD"), -2);
        Desk.due("a small letter", d.find("a"), -2);
        Desk.due("more than a name", d.find("A 1/AB"), -2);
        Desk.due("a long one", d.find("A".repeat(100)), -2);
        Desk.due("it stays", d.look(0), 7);
        Desk.due("A", d.find("A"), 3);
        Desk.due("of an INT", d.find("A"), -2);
        d.go(1);
        Desk.due("AB", d.find("AB"), 4);
        d.go(1);
        Desk.due("ABC", d.find("ABC"), 5);
        d.go(2);
        Desk.due("a STREAM's", d.find("X"), 0);
        d.go(2);
        Desk.due("a STREAM's Length", d.find("Length"), 3);
        d.go(3);
        Desk.due("of an ARRAY", d.find("A"), -2);
        d.pour(3, "");
        d.go(3);
        Desk.due("a poured STREAM's", d.find("Lengt"), -2);
        Desk.due("a poured STREAM's Length", d.find("Length"), 3);
        Desk.due("its value", d.look(1), 0);
    }

    private static void follows() {
        Desk d = Desk.opened(new Paper().object(1, "[2 3 R 2 0 R 4 0 R 299 0 R 1 0 R 5 0 R 7]").object(2, 3, "(x)").unused(4, 0)
                .object(5, "2 3 R").object(6, 65536, "1").trailer("<</Size 7>>").last().toString());
        int[] kinds = {5, -2, -2, -2, 6, 8, -2};
        for (int k = 0; k < kinds.length; k++) {
            d.go(1);
            int kind = d.item(k);
            Desk.due("follow " + k, d.call(PaperFile::follow), kinds[k]);
            Desk.due("the point", d.look(0), kinds[k] < 0 ? kind : kinds[k]);
        }
        d.go(5);
        Desk.due("a REF as a value", d.call(PaperFile::follow), 5);
        Desk.due("no REF", d.call(PaperFile::follow), -2);
        Desk.due("it stays", d.look(1), 1);
        d.free(2);
        d.go(5);
        Desk.due("to a freed one", d.call(PaperFile::follow), -2);
        d.put(2, "/Z");
        d.go(5);
        Desk.due("to one of a later generation", d.call(PaperFile::follow), -2);
        d.put(5, "2 4 R");
        d.go(5);
        Desk.due("with its generation", d.call(PaperFile::follow), 4);
    }

    private static void looks() {
        Desk d = Desk.opened(Paper.of("-7", "5 6 R", "/Name", "(abc)", "[1[2 3]]", "<</A[1 2]>>", Paper.stream("/B 1", "abcde"), "true"));
        int[][] want = {{3, -7, 0}, {8, 5, 6}, {4, 4, 0}, {5, 3, 0}, {6, 2, 0}, {7, 1, 0}, {9, 5, 2}, {1, 0, 0}};
        Desk.due("without a point", d.look(0), -2);
        Desk.due("refused first", d.look(3), -1);
        for (int n = 1; n <= 8; n++) {
            d.go(n);
            for (int what = 0; what <= 2; what++) {
                Desk.due("look " + what + " of " + n, d.look(what), want[n - 1][what]);
            }
            Desk.due("look 3", d.look(3), -1);
            Desk.due("look -1", d.look(-1), -1);
        }
    }

    private static void bytes() {
        Desk d = Desk.opened(Paper.of("/Name", "(a\\101\\))", "<</A 1/Bcd 2>>", Paper.stream("/Filter/Hex", "6162"), "[/A]", "7", "null", "1 0 R"));
        String[] want = {"4Name", "3aA)", "-2", "46162", "-2", "-2", "-2", "-2"};
        String[] first = {"4Name", "3aA)", "1A", "6Filter", "-2", "-2", "-2", "-2"};
        for (int n = 1; n <= 8; n++) {
            d.go(n);
            taken(d, -1, want[n - 1]);
            taken(d, Integer.MIN_VALUE, want[n - 1]);
            taken(d, 0, first[n - 1]);
        }
        d.go(3);
        taken(d, 1, "3Bcd");
        taken(d, 2, "-2");
        d.go(4);
        taken(d, 1, "6Length");
        taken(d, 2, "-2");
        d.go(1);
        taken(d, 99, "4Name");
        d.put(1, "/" + "x".repeat(20));
        Desk.due("without a point", d.bytes(0), -2);
        Desk.due("OUT stays", d.out(), "Name");
        d.pour(1, "\0\u00ff\n");
        d.go(1);
        taken(d, -1, "3\0\u00ff\n");
        taken(d, 0, "6Length");
        taken(d, 1, "-2");
    }

    private static void taken(Desk d, int k, String want) {
        String before = d.out();
        int answer = d.bytes(k);
        Desk.due("bytes " + k, answer < 0 ? String.valueOf(answer) : answer + d.out(), want);
        if (answer < 0) {
            Desk.due("OUT stays", d.out(), before);
        }
    }

    private static void noneBehindChanges() {
        Desk d = Desk.opened(Paper.of("1", "2", "3"));
        d.go(1);
        d.put(2, "5");
        Desk.due("behind put", d.look(0), -2);
        d.go(1);
        d.pour(2, "5");
        Desk.due("behind pour", d.look(0), -2);
        d.go(1);
        d.free(2);
        Desk.due("behind free", d.look(0), -2);
        d.go(1);
        d.put(2, "");
        d.put(9, "1");
        d.pour(9, "1");
        d.free(2);
        d.save();
        d.call(PaperFile::pages);
        d.count(0);
        Desk.due("behind what changes nothing", d.look(1), 1);
    }
}
