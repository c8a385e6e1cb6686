/** The boundaries of the point and of what reads it: promises 5 to 11. */
public final class PointEdgeTest {
    /** Each kind, at its number and one more. */
    private static final String[] KINDS = {"null", "true", "false", "-7", "/Name", "(string)", "[10 20]", "<</A 1/B 2>>", "4 0 R",
        Paper.stream("/X 5", "stream")};
    private static final int[] FAR = {-1, -2, 300, 301, Integer.MIN_VALUE, Integer.MAX_VALUE};

    public static void main(String[] args) {
        noneAtFirst();
        noneBehindEachChange();
        goesToKinds();
        goesToNone();
        trailer();
        itemsOfArrays();
        namesOfDicts();
        itemsOfNeither();
        findsNames();
        findsNone();
        findsInNeither();
        follows();
        followsOtherGenerations();
        followsNoRef();
        lookWhat();
        lookWithoutPoint();
        lookMeasures();
        bytesOfNamesAndStrings();
        bytesOfStreams();
        namesByBytes();
        bytesOfNothing();
        Desk.finish();
    }

    private static Desk kinds() {
        return Desk.opened(Paper.of(KINDS)).tape("the TAPE");
    }

    private static void noneAtFirst() {
        Desk.says("none at first and behind each change");
        new Desk().stays("of a new object", -2, x -> x.look(0));
        kinds().stays("of a new file", -2, x -> x.look(0));
    }

    private static void noneBehindEachChange() {
        Desk d = Desk.opened(Paper.of(KINDS));
        d.go(4);
        Desk.due("a put of the same object", d.put(4, "1"), 11);
        Desk.due("no point", d.look(0), -2);
        d.go(4);
        Desk.due("a put of another", d.put(11, "1"), 12);
        Desk.due("no point", d.look(0), -2);
        d.go(4);
        Desk.due("a pour", d.pour(11, "1"), 12);
        Desk.due("no point", d.look(0), -2);
        d.go(4);
        Desk.due("a free", d.free(11), 10);
        Desk.due("no point", d.look(0), -2);
        d.trailer();
        Desk.due("a put", d.put(11, "1"), 12);
        Desk.due("no trailer", d.look(0), -2);
        d.go(7);
        d.item(1);
        Desk.due("an open", d.open(Paper.of(KINDS)), 0);
        Desk.due("no point", d.look(0), -2);
    }

    private static void goesToKinds() {
        Desk.says("its KIND: 0 null, 1 true, 2 false, 3 INT, 4 NAME, 5 STRING, 6 ARRAY, 7 DICT, 8 REF, 9 STREAM");
        Desk d = kinds();
        for (int kind = 0; kind <= 9; kind++) {
            Desk.due("go", d.go(kind + 1), kind);
            Desk.due("look", d.look(0), kind);
        }
    }

    private static void goesToNone() {
        Desk.says("NONE (it stays) if there is none in use");
        Desk d = kinds();
        d.stays("a free one, without a point", -2, x -> x.go(0));
        Desk.due("the last", d.go(10), 9);
        d.stays("SIZE", -2, x -> x.go(11));
        d.stays("above SIZE", -2, x -> x.go(12));
        d.stays("a free one", -2, x -> x.go(0));
        for (int n : FAR) {
            d.stays("go " + n, -2, x -> x.go(n));
        }
        d.free(1);
        d.go(7);
        d.item(1);
        d.stays("a freed one", -2, x -> x.go(1));
        Desk.due("the point", d.look(1), 20);
        d.end(0);
        Desk.due("put at SIZE", d.put(11, "[]"), 12);
        Desk.due("the new one", d.go(11), 6);
        d.stays("SIZE then", -2, x -> x.go(12));
        Desk full = Desk.opened(new Paper().object(0, "1").object(299, "2").trailer("<</Size 300>>").last().toString());
        Desk.due("the first there can be", full.go(0), 3);
        Desk.due("the last there can be", full.go(299), 3);
        full.stays("298", -2, x -> x.go(298));
        full.stays("300", -2, x -> x.go(300));
    }

    private static void trailer() {
        Desk.says("THE POINT is the latest trailer: 7. NONE without a file.");
        new Desk().tape("the TAPE").stays("without a file", -2, PaperFile::trailer);
        Desk faulty = new Desk();
        faulty.open("%PDF-1.4");
        faulty.stays("behind a fault", -2, PaperFile::trailer);
        Desk d = Desk.opened(new Paper().trailer("<</Size 1/Old 1/Older 2>>").trailer(1, "/Young 5").last().toString());
        Desk.due("trailer", d.trailer(), 7);
        Desk.due("its names", d.look(1), 3);
        Desk.due("of the latest", d.item(1) + d.look(1), 3 + 5);
        d.trailer();
        taken(d, 0, "Size");
        taken(d, 1, "Young");
        taken(d, 2, "Prev");
        d.stays("its fourth name", -2, x -> x.bytes(3));
        d.stays("its fourth value", -2, x -> x.item(3));
        d.stays("no REF", -2, PaperFile::follow);
        d.stays("no STREAM", -2, PaperFile::decode);
        d.tape("Old").staysButTape("a name of the older one", -2, PaperFile::find);
        d.put(1, "1");
        Desk.due("trailer behind a change", d.trailer(), 7);
        Desk.due("its names", d.look(1), 3);
        Desk.due("Size as the text has it", d.item(0) + d.look(1), 3 + 1);
    }

    private static void itemsOfArrays() {
        Desk.says("THE POINT is item k, from 0, of the ARRAY");
        for (int size : new int[] {0, 1, 2, 59, 60}) {
            StringBuilder items = new StringBuilder();
            for (int k = 0; k < size; k++) {
                items.append(1000 + k).append(' ');
            }
            Desk d = Desk.opened(Paper.of("[" + items + "]"));
            for (int k : new int[] {0, 1, size - 2, size - 1}) {
                if (k >= 0 && k < size) {
                    d.go(1);
                    Desk.due("item " + k, d.item(k), 3);
                    Desk.due("its value", d.look(1), 1000 + k);
                }
            }
            d.go(1);
            for (int k : new int[] {size, size + 1, -1, -2, Integer.MIN_VALUE, Integer.MAX_VALUE}) {
                d.stays("item " + k + " of " + size, -2, x -> x.item(k));
            }
        }
        Desk d = Desk.opened(Paper.of("[[1 2 3]<</A[4]/B 5>>[]6]"));
        int[] measures = {3, 2, 0, 6};
        for (int k = 0; k < 4; k++) {
            d.go(1);
            d.item(k);
            Desk.due("item " + k + " behind items with items", d.look(1), measures[k]);
        }
    }

    private static void namesOfDicts() {
        Desk.says("or the value of the k-th name of the DICT (or STREAM's) that it is: its KIND");
        for (int size : new int[] {0, 1, 2, 29, 30}) {
            StringBuilder pairs = new StringBuilder();
            for (int k = 0; k < size; k++) {
                pairs.append("/N").append(k).append(' ').append(k == size - 1 ? 1 : 1000 + k);
            }
            String stream = "<<" + pairs.toString().replace("/N" + (size - 1) + " ", "/Length ") + ">>stream\na\nendstream";
            Desk d = Desk.opened(size == 0 ? Paper.of("<<>>") : Paper.of("<<" + pairs + ">>", stream));
            for (int n = 1; n <= (size == 0 ? 1 : 2); n++) {
                for (int k = 0; k < size; k++) {
                    d.go(n);
                    Desk.due("item " + k, d.item(k), 3);
                    Desk.due("its value", d.look(1), k == size - 1 ? 1 : 1000 + k);
                }
                d.go(n);
                for (int k : new int[] {size, size + 1, -1, Integer.MIN_VALUE, Integer.MAX_VALUE}) {
                    d.stays("item " + k + " of " + size, -2, x -> x.item(k));
                }
            }
        }
    }

    private static void itemsOfNeither() {
        Desk.says("NONE (it stays) if there is none, or it is neither");
        Desk d = kinds();
        d.stays("without a point", -2, x -> x.item(0));
        new Desk().stays("without a file", -2, x -> x.item(0));
        for (int kind : new int[] {0, 1, 2, 3, 4, 5, 8}) {
            d.go(kind + 1);
            for (int k : new int[] {-1, 0, 1}) {
                d.stays("item " + k + " of kind " + kind, -2, x -> x.item(k));
            }
        }
    }

    private static void findsNames() {
        Desk.says("THE POINT is the value of the name that the TAPE is (without /) of the DICT (or STREAM's)");
        String longest = "n".repeat(20);
        String names = "/A 1/" + longest + " 2/" + longest.substring(1) + " 3/~!% 4";
        Desk d = Desk.opened(Paper.of("<<" + names + ">>", Paper.stream(names, "abc")));
        for (int n = 1; n <= 2; n++) {
            String[] all = {"A", longest, longest.substring(1), "~!%"};
            for (int k = 0; k < 4; k++) {
                d.go(n);
                Desk.due("find " + all[k], d.find(all[k]), 3);
                Desk.due("its value", d.look(1), k + 1);
            }
        }
        d.go(2);
        Desk.due("a STREAM's Length", d.find("Length"), 3);
        Desk.due("its value", d.look(1), 3);
        d.trailer();
        Desk.due("in the trailer", d.find("Size"), 3);
        d.pour(1, "ab");
        d.go(1);
        Desk.due("a poured STREAM's Length", d.find("Length"), 3);
        Desk.due("its value", d.look(1), 2);
    }

    private static void findsNone() {
        Desk.says("likewise");
        String longest = "n".repeat(20);
        Desk d = Desk.opened(Paper.of("<</AB 1/" + longest + "/V>>", "<<>>", Paper.stream("/AB 1", "abc")));
        String[] wrong = {"", "A", "ABC", "B", "ab", "/AB", "AB ", " AB", "AB\n", "A\0", "AB\0", "V", "1", "AB 1", "AB/" + longest, longest.substring(1), longest + "n",
            "AB\u00c2"};
        for (String name : wrong) {
            d.go(1);
            d.tape(name).staysButTape("find " + name, -2, PaperFile::find);
        }
        d.tape("A".repeat(4000)).staysButTape("find 4000 bytes", -2, PaperFile::find);
        Desk other = Desk.opened(Paper.of("<</AB 1>>", "<<>>", Paper.stream("/AB 1", "abc")));
        Desk inner = Desk.opened(Paper.of("<</A<</B 1>>/C 2>>", "[<</D 1>><</E 2>>]", "<</F 1>>"));
        inner.go(1);
        inner.item(0);
        inner.tape("C").staysButTape("a name behind the DICT", -2, PaperFile::find);
        inner.tape("A").staysButTape("the DICT's own name", -2, PaperFile::find);
        Desk.due("a name in it", inner.find("B"), 3);
        inner.go(1);
        inner.tape("B").staysButTape("a name in a DICT in it", -2, PaperFile::find);
        inner.go(2);
        inner.item(0);
        inner.tape("E").staysButTape("a name in the next DICT", -2, PaperFile::find);
        inner.go(1);
        inner.tape("F").staysButTape("a name of the next object", -2, PaperFile::find);
        other.go(2);
        other.tape("AB").staysButTape("find in an empty DICT", -2, PaperFile::find);
        other.tape("").staysButTape("find nothing in an empty DICT", -2, PaperFile::find);
        other.go(3);
        other.tape("ABC").staysButTape("find in a STREAM", -2, PaperFile::find);
        other.tape("abc").staysButTape("find a STREAM's bytes", -2, PaperFile::find);
        other.pour(1, "AB");
        other.go(1);
        other.tape("AB").staysButTape("find in a poured STREAM", -2, PaperFile::find);
        other.tape("Lengt").staysButTape("find less than Length", -2, PaperFile::find);
        other.tape("Lengths").staysButTape("find more than Length", -2, PaperFile::find);
    }

    private static void findsInNeither() {
        Desk d = Desk.opened(Paper.of(KINDS));
        d.tape("A").staysButTape("without a point", -2, PaperFile::find);
        new Desk().tape("A").staysButTape("without a file", -2, PaperFile::find);
        for (int kind : new int[] {0, 1, 2, 3, 4, 5, 6, 8}) {
            d.go(kind + 1);
            d.tape("A").staysButTape("in kind " + kind, -2, PaperFile::find);
            d.tape("").staysButTape("nothing in kind " + kind, -2, PaperFile::find);
        }
        Desk array = Desk.opened(Paper.of("[/A 1]"));
        array.go(1);
        array.tape("A").staysButTape("a NAME in an ARRAY", -2, PaperFile::find);
    }

    private static void follows() {
        Desk.says("THE POINT is the object that the REF leads to: its KIND");
        Paper paper = new Paper().object(0, "[0]");
        for (int k = 0; k < KINDS.length; k++) {
            paper.object(k + 1, KINDS[k]);
        }
        paper.object(20, "[0 0 R 1 0 R 2 0 R 3 0 R 4 0 R 5 0 R 6 0 R 7 0 R 8 0 R 9 0 R 10 0 R 20 0 R 299 65535 R]").object(299, 65535, "299");
        Desk d = Desk.opened(paper.trailer("<</Size 300>>").last().toString());
        int[] kinds = {6, 0, 1, 2, 3, 4, 5, 6, 7, 8, 9, 6, 3};
        for (int k = 0; k < kinds.length; k++) {
            d.go(20);
            d.item(k);
            Desk.due("follow " + k, d.follow(), kinds[k]);
            Desk.due("the point", d.look(0), kinds[k]);
        }
        d.go(9);
        Desk.due("a REF that is the value", d.follow(), 3);
        d.go(20);
        d.item(9);
        Desk.due("to a REF", d.follow(), 8);
        Desk.due("and on", d.follow(), 3);
        Desk.due("the end", d.look(1), -7);
    }

    private static void followsOtherGenerations() {
        Desk.says("NONE (it stays) if that is not in use with that generation, or it is no REF");
        Desk d = Desk.opened(new Paper().object(1, "[2 4 R 2 5 R 2 6 R 2 0 R 3 7 R 3 8 R 4 0 R 5 0 R 6 0 R 299 0 R 7 65535 R 7 0 R 7 1 R]")
                .object(2, 5, "2").unused(3, 7).object(7, 65536, "7").trailer("<</Size 8>>").last().toString());
        for (int k = 0; k < 13; k++) {
            d.go(1);
            d.item(k);
            if (k == 1) {
                Desk.due("with its generation", d.follow(), 3);
            } else {
                d.stays("REF " + k, -2, PaperFile::follow);
            }
        }
        d.free(2);
        d.go(1);
        d.item(1);
        d.stays("a freed one, with the generation it had", -2, PaperFile::follow);
        d.go(1);
        d.item(2);
        d.stays("a freed one, with the generation it would get", -2, PaperFile::follow);
        d.put(2, "22");
        d.go(1);
        d.item(1);
        d.stays("with the generation it had before", -2, PaperFile::follow);
        d.go(1);
        d.item(2);
        Desk.due("with the generation it has", d.follow(), 3);
        Desk.due("the value", d.look(1), 22);
    }

    private static void followsNoRef() {
        Desk d = kinds();
        d.stays("without a point", -2, PaperFile::follow);
        new Desk().stays("without a file", -2, PaperFile::follow);
        for (int kind = 0; kind <= 9; kind++) {
            d.go(kind + 1);
            if (kind != 8) {
                d.stays("from kind " + kind, -2, PaperFile::follow);
            }
        }
    }

    private static void lookWhat() {
        Desk.says("REFUSED for another what, first");
        Desk without = new Desk();
        Desk noPoint = kinds();
        Desk point = kinds();
        point.go(9);
        for (int what : new int[] {-1, 3, -2, 4, Integer.MIN_VALUE, Integer.MAX_VALUE}) {
            without.stays("look " + what + " without a file", -1, x -> x.look(what));
            noPoint.stays("look " + what + " without a point", -1, x -> x.look(what));
            point.stays("look " + what, -1, x -> x.look(what));
        }
        int[] want = {8, 4, 0};
        for (int what = 0; what < 3; what++) {
            int k = what;
            point.stays("look " + k, want[k], x -> x.look(k));
        }
    }

    private static void lookWithoutPoint() {
        Desk.says("NONE without a point");
        for (int what = 0; what < 3; what++) {
            int k = what;
            new Desk().stays("look " + k, -2, x -> x.look(k));
            kinds().stays("look " + k, -2, x -> x.look(k));
        }
    }

    private static void looks(String value, int kind, int one, int two) {
        Desk d = Desk.opened(Paper.of(value));
        d.go(1);
        Desk.due("look(0) of " + value, d.look(0), kind);
        Desk.due("look(1) of " + value, d.look(1), one);
        Desk.due("look(2) of " + value, d.look(2), two);
    }

    private static void lookMeasures() {
        Desk.says("an INT, a REF's number, or how many bytes, items, names (a STREAM's bytes), else 0; 2: a REF's generation, a STREAM's names, else 0");
        looks("null", 0, 0, 0);
        looks("true", 1, 0, 0);
        looks("false", 2, 0, 0);
        looks("999999999", 3, 999999999, 0);
        looks("-999999999", 3, -999999999, 0);
        looks("-1", 3, -1, 0);
        looks("-2", 3, -2, 0);
        looks("/" + "n".repeat(20), 4, 20, 0);
        looks("/n", 4, 1, 0);
        looks("()", 5, 0, 0);
        looks("<" + "00".repeat(100) + ">", 5, 100, 0);
        looks("[]", 6, 0, 0);
        looks("[" + "[1]".repeat(60) + "]", 6, 60, 0);
        looks("<<>>", 7, 0, 0);
        looks("<<" + TermsEdgeTest.named(30, "[1]") + ">>", 7, 30, 0);
        looks("0 0 R", 8, 0, 0);
        looks("299 65535 R", 8, 299, 65535);
        looks(Paper.stream("", ""), 9, 0, 1);
        looks(Paper.stream(TermsEdgeTest.named(29, "[1]"), "a".repeat(3000)), 9, 3000, 30);
    }

    private static void taken(Desk d, int k, String want) {
        Desk.due("bytes " + k, d.bytes(k), want.length());
        Desk.due("OUT behind bytes " + k, d.out(), want);
    }

    private static void bytesOfNamesAndStrings() {
        Desk.says("OUT becomes the bytes of the NAME or STRING");
        String longest = "(" + "\\377".repeat(99) + "\\))";
        Desk d = Desk.opened(Paper.of("/N", "/" + "n".repeat(20), "()", longest, "<>", "<00fF>"));
        String[] want = {"N", "n".repeat(20), "", "\u00ff".repeat(99) + ")", "", "\0\u00ff"};
        for (int n = 1; n <= 6; n++) {
            for (int k : new int[] {-1, 0, 1, Integer.MIN_VALUE, Integer.MAX_VALUE}) {
                d.go(n);
                taken(d, k, want[n - 1]);
            }
        }
    }

    private static void bytesOfStreams() {
        Desk.says("of a STREAM, if k is below 0, as they are");
        Desk d = Desk.opened(Paper.of(Paper.stream("/Filter/Hex", "4142"), Paper.stream("", ""), Paper.stream("", "\0\u00ff\n"), Paper.stream("", "c".repeat(1000))));
        String[] want = {"4142", "", "\0\u00ff\n", "c".repeat(1000)};
        for (int n = 1; n <= 4; n++) {
            for (int k : new int[] {-1, -2, Integer.MIN_VALUE}) {
                d.go(n);
                taken(d, k, want[n - 1]);
            }
        }
        Desk most = Desk.opened(Paper.of("1"));
        most.pour(1, "d".repeat(4000));
        most.go(1);
        taken(most, -1, "d".repeat(4000));
    }

    private static void namesByBytes() {
        Desk.says("else the k-th name, from 0, of the DICT (or STREAM's): how many");
        String longest = "n".repeat(20);
        Desk d = Desk.opened(Paper.of("<</A/B/" + longest + "[]/C/D>>", Paper.stream("/A[1[2]]/" + longest + "<</E 1>>", "xyz")));
        String[][] want = {{"A", longest, "C"}, {"A", longest, "Length"}};
        for (int n = 1; n <= 2; n++) {
            d.go(n);
            for (int k = 0; k < 3; k++) {
                taken(d, k, want[n - 1][k]);
            }
            for (int k : new int[] {3, 4, Integer.MAX_VALUE}) {
                d.stays("name " + k, -2, x -> x.bytes(k));
            }
        }
        d.go(1);
        for (int k : new int[] {-1, -2, Integer.MIN_VALUE}) {
            d.stays("name " + k + " of a DICT", -2, x -> x.bytes(k));
        }
        Desk full = Desk.opened(Paper.of("<<" + TermsEdgeTest.named(30, " 1") + ">>"));
        full.go(1);
        taken(full, 29, "N29");
        full.stays("name 30 of 30", -2, x -> x.bytes(30));
        full.pour(1, "");
        full.go(1);
        taken(full, 0, "Length");
        full.stays("name 1 of a poured STREAM", -2, x -> x.bytes(1));
    }

    private static void bytesOfNothing() {
        Desk.says("NONE if there is nothing of that");
        Desk d = Desk.opened(Paper.of("null", "true", "false", "1", "[/A(x)]", "2 0 R", "<<>>", "(out)")).tape("the TAPE");
        d.stays("without a point", -2, x -> x.bytes(0));
        d.stays("without a point", -2, x -> x.bytes(-1));
        new Desk().stays("without a file", -2, x -> x.bytes(0));
        d.go(8);
        d.bytes(0);
        for (int n = 1; n <= 7; n++) {
            d.go(n);
            for (int k : new int[] {-1, 0, 1, Integer.MAX_VALUE}) {
                d.stays("bytes " + k + " of object " + n, -2, x -> x.bytes(k));
            }
        }
    }
}
