/** The boundaries of save: promise 17. */
public final class SaveEdgeTest {
    public static void main(String[] args) {
        withoutFile();
        withoutChanges();
        ifThereAreChanges();
        risingNumbers();
        longestSections();
        entriesOfFreeOnes();
        sizeInItsPlace();
        prevInItsPlace();
        prevAtTheEnd();
        placeOfThisXref();
        fileAndChangesStay();
        full();
        fullStays();
        writtenInts();
        writtenOthers();
        writtenStreams();
        readAgain();
        Desk.finish();
    }

    private static void saved(Desk d, String want) {
        Desk.due("save", d.save(), want.length());
        Desk.due("OUT", d.out(), want);
    }

    private static void withoutFile() {
        Desk.says("NONE without a file");
        new Desk().tape("the TAPE").stays("save", -2, PaperFile::save);
        Desk faulty = new Desk();
        faulty.open("%PDF");
        faulty.stays("save behind a fault", -2, PaperFile::save);
    }

    private static void withoutChanges() {
        Desk.says("OUT becomes THE FILE's bytes");
        String least = new Paper().trailer("<</Size 1>>").last().toString();
        saved(Desk.opened(least), least);
        String most = new Paper().raw("\0\u00ff".repeat(1970)).raw(" ").trailer("<</Size 1>>").last().toString();
        Desk.due("as long as a file can be", most.length(), 4000);
        saved(Desk.opened(most), most);
        Desk d = Desk.opened(least);
        d.tape("]").staysButTape("a put that is broken", -4, x -> x.put(0));
        d.tape("1").staysButTape("a put that is refused", -1, x -> x.put(2));
        saved(d, least);
    }

    /** What a first table at place 9 and the changes give. */
    private static Paper paper() {
        return new Paper().object(1, "1").object(2, 7, "2").object(3, "3").trailer("<</Size 5>>").last();
    }

    private static void ifThereAreChanges() {
        Desk.says("and, if there are changes, behind them");
        Paper paper = paper();
        int table = paper.table();
        Desk d = Desk.opened(paper.toString());
        d.put(1, "1");
        saved(d, paper.object(1, "1").trailer("<</Size 5 /Prev " + table + ">>").last().toString());
        d.open(paper().toString());
        saved(d, paper().toString());
    }

    private static void risingNumbers() {
        Desk.says("by rising numbers of objects in use that were changed: number, 32, generation, 32, obj, 10, the value WRITTEN, 10, endobj, 10");
        Paper paper = paper();
        int table = paper.table();
        Desk d = Desk.opened(paper.toString());
        for (int n : new int[] {5, 3, 0, 2, 4, 1}) {
            d.put(n, "[" + n + "]");
        }
        for (int n = 0; n <= 5; n++) {
            paper.object(n, n == 2 ? 7 : 0, "[" + n + "]");
        }
        saved(d, paper.trailer("<</Size 6 /Prev " + table + ">>").last().toString());
        Paper last = new Paper().trailer("<</Size 300>>").last();
        int lastTable = last.table();
        Desk e = Desk.opened(last.toString());
        e.put(299, "1");
        e.put(0, "2");
        saved(e, last.object(0, "2").object(299, "1").trailer("<</Size 300 /Prev " + lastTable + ">>").last().toString());
    }

    private static void longestSections() {
        Desk.says("sections of numbers that were changed, each as long as can be");
        for (int mask = 1; mask < 64; mask++) {
            Paper paper = paper();
            int table = paper.table();
            Desk d = Desk.opened(paper.toString());
            d.put(5, "5");
            for (int n = 0; n < 5; n++) {
                if ((mask >> n & 1) == 1) {
                    d.put(n, "1");
                    paper.object(n, n == 2 ? 7 : 0, "1");
                }
            }
            paper.object(5, "5");
            if ((mask >> 5 & 1) == 1) {
                d.put(6, "6");
                paper.object(6, "6");
            }
            saved(d, paper.trailer("<</Size " + d.count(0) + " /Prev " + table + ">>").last().toString());
        }
    }

    private static void entriesOfFreeOnes() {
        Desk.says("entries as told (free ones: 0000000000 and the generation)");
        for (int generation : new int[] {0, 65534, 65535, 65536, 99999}) {
            Paper paper = new Paper().object(1, generation, "1").object(2, generation, "2").trailer("<</Size 3>>").last();
            int table = paper.table();
            Desk d = Desk.opened(paper.toString());
            d.put(1, "11");
            d.free(2);
            int freed = generation < 65535 ? generation + 1 : generation;
            saved(d, paper.object(1, generation, "11").unused(2, freed).trailer("<</Size 3 /Prev " + table + ">>").last().toString());
        }
        Paper paper = paper();
        int table = paper.table();
        Desk all = Desk.opened(paper.toString());
        all.free(1);
        all.free(2);
        all.free(3);
        all.put(5, "5");
        all.free(5);
        saved(all, paper.unused(1, 1).unused(2, 8).unused(3, 1).unused(5, 1).trailer("<</Size 6 /Prev " + table + ">>").last().toString());
    }

    private static void trailer(String given, String want) {
        Paper paper = new Paper().trailer("<</Size 1>>");
        int first = paper.table();
        paper.trailer(given.replace("FIRST", String.valueOf(first))).last();
        int table = paper.table();
        Desk d = Desk.opened(paper.toString());
        d.put(1, "1");
        saved(d, paper.object(1, "1").trailer(want.replace("TABLE", String.valueOf(table))).last().toString());
    }

    private static void sizeInItsPlace() {
        Desk.says("the latest trailer with Size (SIZE) and Prev (the place of the table before) in their places");
        trailer("<</A 1/Size 000000001/B 2/Prev FIRST/C 3>>", "<</A 1 /Size 2 /B 2 /Prev TABLE /C 3>>");
        trailer("<</Prev FIRST/Size 1>>", "<</Prev TABLE /Size 2>>");
        trailer("<</A<</Size 9/Prev 8>>/Size 1/Prev FIRST>>", "<</A <</Size 9 /Prev 8>> /Size 2 /Prev TABLE>>");
        Paper same = new Paper().object(0, "1").trailer("<</Size 1>>").last();
        int table = same.table();
        Desk d = Desk.opened(same.toString());
        d.put(0, "2");
        saved(d, same.object(0, "2").trailer("<</Size 1 /Prev " + table + ">>").last().toString());
        Paper most = new Paper().trailer("<</Size 299>>").last();
        int mostTable = most.table();
        Desk e = Desk.opened(most.toString());
        e.put(299, "2");
        saved(e, most.object(299, "2").trailer("<</Size 300 /Prev " + mostTable + ">>").last().toString());
    }

    private static void prevInItsPlace() {
        String names = TermsEdgeTest.named(28, " 1");
        String spaced = names.substring(1).replace("/", " /");
        trailer("<</Size 1/Prev FIRST" + names + ">>", "<</Size 2 /Prev TABLE /" + spaced + ">>");
        trailer("<<" + names + "/Prev FIRST/Size 1>>", "<</" + spaced + " /Prev TABLE /Size 2>>");
    }

    private static void prevAtTheEnd() {
        Desk.says("or, Prev, at the end");
        trailer("<</Size 1>>", "<</Size 2 /Prev TABLE>>");
        trailer("<</Size 1/prev 5/Pre 6/Prevs 7>>", "<</Size 2 /prev 5 /Pre 6 /Prevs 7 /Prev TABLE>>");
        trailer("<</Size 1/A/Prev>>", "<</Size 2 /A /Prev /Prev TABLE>>");
        String names = TermsEdgeTest.named(29, " 1");
        trailer("<</Size 1" + names + ">>", "<</Size 2 /" + names.substring(1).replace("/", " /") + " /Prev TABLE>>");
    }

    private static void placeOfThisXref() {
        Desk.says("startxref, 10, the place of this xref, 10, %%EOF, 10: how many bytes");
        for (int size : new int[] {1, 40, 900, 950}) {
            Paper paper = new Paper().raw(" ".repeat(size)).trailer("<</Size 1>>").last();
            int table = paper.table();
            Desk d = Desk.opened(paper.toString());
            d.put(0, "1");
            saved(d, paper.object(0, "1").trailer("<</Size 1 /Prev " + table + ">>").last().toString());
        }
    }

    private static void fileAndChangesStay() {
        Desk.says("(THE FILE and its CHANGES stay)");
        Desk d = FileEdgeTest.busy();
        int size = d.save();
        d.stays("save again", size, PaperFile::save);
        Desk.due("changes", d.count(3), 3);
        Desk.due("bytes", d.count(4), Paper.sample().length());
        Desk.due("tables", d.count(2), 1);
        Desk.due("the point", d.look(1), 7);
    }

    /** A file with so many bytes between, so that save with 4000 bytes poured into object 1 is as long as asked for. */
    private static String fitting(int wanted) {
        for (int size = 1500; size < 2000; size++) {
            String text = Paper.of("1", Paper.stream("", "b".repeat(size)));
            String more = new Paper().object(1, "<</Length 4000>>\nstream\n" + "x".repeat(4000) + "\nendstream").toString();
            String trailer = new Paper().used(1, 0, 0).trailer("<</Size 3 /Prev 1000>>").last(6000).toString();
            if (text.length() + more.length() - 9 + trailer.length() - 9 == wanted) {
                return text;
            }
        }
        throw new IllegalStateException("no size fits");
    }

    private static void full() {
        Desk.says("FULL above 6000 (OUT stays)");
        for (int size : new int[] {5998, 5999, 6000}) {
            Desk d = Desk.opened(fitting(size));
            d.pour(1, "x".repeat(4000));
            Desk.due("save of " + size, d.save(), size);
            Desk.due("size of OUT", d.octet(-1), size);
            Desk.due("the last byte", d.octet(size - 1), 10);
            d.stays("behind the last", -2, x -> x.octet(size));
        }
        for (int size : new int[] {6001, 6002, 6100}) {
            Desk d = Desk.opened(fitting(size));
            d.pour(1, "x".repeat(4000));
            d.stays("save of " + size, -3, PaperFile::save);
            d.trailer();
            d.bytes(0);
            d.stays("save of " + size + " with OUT", -3, PaperFile::save);
        }
    }

    private static void fullStays() {
        Desk d = Desk.opened(Paper.of("1", Paper.stream("", "b".repeat(2000))));
        d.put(1, "2");
        int size = d.save();
        d.pour(1, "x".repeat(4000));
        d.stays("save", -3, PaperFile::save);
        d.put(1, "2");
        Desk.due("what fits again", d.save(), size);
    }

    private static void written(String given, String want) {
        Paper paper = new Paper().trailer("<</Size 1>>").last();
        int table = paper.table();
        Desk d = Desk.opened(paper.toString());
        d.put(0, given);
        saved(d, paper.object(0, want).trailer("<</Size 1 /Prev " + table + ">>").last().toString());
    }

    private static void writtenInts() {
        Desk.says("words, ints (no + , no 0s in front)");
        String[] given = {"0", "-0", "000000000", "-000000000", "1", "-1", "000000001", "-000000001", "9", "10", "99", "100", "999999999", "-999999999",
            "100000000", "-100000000"};
        for (String value : given) {
            written(value, String.valueOf(Integer.parseInt(value)));
        }
        written("null", "null");
        written("true", "true");
        written("false", "false");
    }

    private static void writtenOthers() {
        Desk.says("names with /, strings as < small digits of base 16 >, refs with one byte 32 between");
        written("/" + "n".repeat(20), "/" + "n".repeat(20));
        written("/!", "/!");
        written("()", "<>");
        written("<>", "<>");
        written("(\\000\\011\\377)", "<0009ff>");
        written("<ABCDEFabcdef>", "<abcdefabcdef>");
        written("(" + "\\)".repeat(100) + ")", "<" + "29".repeat(100) + ">");
        written("0 0 R", "0 0 R");
        written("000000299\r\n000065535\n \nR", "299 65535 R");
        Desk.says("items of arrays with 32 between, dicts << then each name, 32, value, with 32 between pairs, >>");
        written("[]", "[]");
        written("[\n]", "[]");
        written("[(a)]", "[<61>]");
        written("[/A/B(c)1 0 R[][1]]", "[/A /B <63> 1 0 R [] [1]]");
        written("[" + "1\n".repeat(60) + "]", "[" + "1 ".repeat(59) + "1]");
        written("[".repeat(8) + "1" + "]".repeat(8), "[".repeat(8) + "1" + "]".repeat(8));
        written("<<>>", "<<>>");
        written("<</A/B>>", "<</A /B>>");
        written("<</A<</B<<>>/C[]>>/D()>>", "<</A <</B <<>> /C []>> /D <>>>");
        String names = TermsEdgeTest.named(30, "[1]");
        written("<<" + names + ">>", "<</" + names.substring(1).replace("[", " [").replace("/", " /") + ">>");
        written("<</A".repeat(8) + "/B" + ">>".repeat(8), "<</A ".repeat(8) + "/B" + ">>".repeat(8));
    }

    private static void writtenStreams() {
        Desk.says("a stream: its dict, 10, stream, 10, bytes, 10, endstream");
        for (String bytes : new String[] {"", "a", "\n", "\0\u00ff\u0080", "endstream\nendobj\n", "x".repeat(1000)}) {
            Paper paper = new Paper().trailer("<</Size 1>>").last();
            int table = paper.table();
            Desk d = Desk.opened(paper.toString());
            d.pour(0, bytes);
            String want = "<</Length " + bytes.length() + ">>\nstream\n" + bytes + "\nendstream";
            saved(d, paper.object(0, want).trailer("<</Size 1 /Prev " + table + ">>").last().toString());
        }
    }

    private static void readAgain() {
        Desk.says("written behind what was there before");
        String text = Paper.of("1");
        for (int tables = 2; tables <= 7; tables++) {
            Desk d = Desk.opened(text);
            d.put(1, String.valueOf(tables));
            d.save();
            String then = d.out();
            Desk.due("what was there before", then.startsWith(text), true);
            Desk again = new Desk();
            if (tables <= 6) {
                Desk.due("open of " + tables + " tables", again.open(then), 0);
                Desk.due("tables", again.count(2), tables);
                again.go(1);
                Desk.due("the value", again.look(1), tables);
            } else {
                again.tape(then).staysButTape("open of " + tables + " tables", 3, PaperFile::open);
            }
            text = then;
        }
    }
}
