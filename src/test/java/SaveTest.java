/** Promise 17: save. */
public final class SaveTest {
    public static void main(String[] args) {
        withoutChanges();
        oneChange();
        sections();
        written();
        trailers();
        savedAgain();
        limits();
        threeHundred();
        whatStays();
        Desk.finish();
    }

    private static void saved(Desk d, String want) {
        Desk.due("save", d.save(), want.length());
        Desk.due("OUT", d.out(), want);
    }

    private static void withoutChanges() {
        Desk.due("without a file", new Desk().save(), -2);
        String text = Paper.of("1");
        saved(Desk.opened(text), text);
    }

    private static void oneChange() {
        Paper paper = new Paper().object(1, "1").trailer("<</Size 2>>").last();
        Desk d = Desk.opened(paper.toString());
        int table = paper.table();
        d.put(1, " [ 1 ] ");
        saved(d, paper.object(1, "[1]").trailer("<</Size 2 /Prev " + table + ">>").last().toString());
    }

    private static void sections() {
        Paper paper = new Paper().object(1, 3, "1").object(2, "2").object(3, "3").object(4, 99999, "4").unused(5, 2)
                .trailer("<</Size 7/Root 1 0 R>>").last();
        Desk d = Desk.opened(paper.toString());
        int table = paper.table();
        d.put(7, "77");
        d.put(1, "11");
        d.free(2);
        d.free(4);
        d.put(5, "55");
        d.put(0, "0");
        d.put(8, "88");
        d.free(8);
        paper.object(0, "0").object(1, 3, "11").unused(2, 1).unused(4, 99999).object(5, 2, "55").object(7, "77").unused(8, 1);
        saved(d, paper.trailer("<</Size 9 /Root 1 0 R /Prev " + table + ">>").last().toString());
        Desk again = Desk.opened(d.out());
        Desk.due("SIZE", again.count(0), 9);
        Desk.due("tables", again.count(2), 2);
        Desk.due("in use", again.count(1), 5);
        Desk.due("parts", again.count(5), 5);
        Desk.due("generation", again.state(8, 1), 1);
    }

    private static void value(String given, String want) {
        Paper paper = new Paper().trailer("<</Size 1>>").last();
        Desk d = Desk.opened(paper.toString());
        int table = paper.table();
        d.put(0, given);
        saved(d, paper.object(0, want).trailer("<</Size 1 /Prev " + table + ">>").last().toString());
    }

    private static void written() {
        value("null", "null");
        value("true", "true");
        value("false", "false");
        value("0", "0");
        value("-0", "0");
        value("-000000012", "-12");
        value("000000100", "100");
        value("999999999", "999999999");
        value("-999999999", "-999999999");
        value("/A%#", "/A%#");
        value("()", "<>");
        value("(aZ\\(\\012\\377\n\u00ab)", "<615a280aff0aab>");
        value("<0AfF>", "<0aff>");
        value("<>", "<>");
        value("007\n0065535 R", "7 65535 R");
        value("[]", "[]");
        value("[ ]", "[]");
        value("[1/A()[2]<</B/C>>3 0 R]", "[1 /A <> [2] <</B /C>> 3 0 R]");
        value("<<>>", "<<>>");
        value("<</A/B/C 1/D<</E[]/F(x)>>/Size 5/Prev 6>>", "<</A /B /C 1 /D <</E [] /F <78>>> /Size 5 /Prev 6>>");
        value("[[[[[[[[1]]]]]]]]", "[[[[[[[[1]]]]]]]]");
        poured("abc");
        poured("");
        poured("\0\u00ff\nendstream");
    }

    private static void poured(String bytes) {
        Paper paper = new Paper().trailer("<</Size 1>>").last();
        Desk d = Desk.opened(paper.toString());
        int table = paper.table();
        d.pour(0, bytes);
        String want = "<</Length " + bytes.length() + ">>\nstream\n" + bytes + "\nendstream";
        saved(d, paper.object(0, want).trailer("<</Size 1 /Prev " + table + ">>").last().toString());
    }

    private static void trailer(String given, String want) {
        Paper paper = new Paper().trailer("<</Size 1>>").last();
        int first = paper.table();
        paper.trailer(given.replace("FIRST", String.valueOf(first))).last();
        Desk d = Desk.opened(paper.toString());
        int table = paper.table();
        d.put(1, "1");
        saved(d, paper.object(1, "1").trailer(want.replace("TABLE", String.valueOf(table))).last().toString());
    }

    private static void trailers() {
        trailer("<</Prev FIRST/Size 1>>", "<</Prev TABLE /Size 2>>");
        trailer("<< /A(x)/Size 000001 /Prev FIRST /B [ 1 0 R]>>", "<</A <78> /Size 2 /Prev TABLE /B [1 0 R]>>");
        trailer("<</Size 1/B<</Size 7/Prev 8>>/Prev FIRST>>", "<</Size 2 /B <</Size 7 /Prev 8>> /Prev TABLE>>");
        trailer("<</B/Size/Size 1>>", "<</B /Size /Size 2 /Prev TABLE>>");
        trailer("<</Size 1/B/Prev>>", "<</Size 2 /B /Prev /Prev TABLE>>");
        trailer("<</Size 1/A" + "[".repeat(7) + "]".repeat(7) + ">>", "<</Size 2 /A " + "[".repeat(7) + "]".repeat(7) + " /Prev TABLE>>");
    }

    private static void savedAgain() {
        String text = Paper.of("1");
        for (int tables = 2; tables <= 7; tables++) {
            Desk d = Desk.opened(text);
            d.put(1, String.valueOf(tables));
            d.save();
            text = d.out();
            Desk then = new Desk();
            Desk.due("open with " + tables + " tables", then.open(text), tables <= 6 ? 0 : 3);
            if (tables <= 6) {
                Desk.due("tables", then.count(2), tables);
                then.go(1);
                Desk.due("the value", then.look(1), tables);
            } else {
                break;
            }
        }
    }

    private static void limits() {
        String text = fitting();
        Desk d = Desk.opened(text);
        d.pour(1, "x".repeat(4000));
        Desk.due("6000 bytes", d.save(), 6000);
        Desk.due("size of OUT", d.file.octet(-1), 6000);
        Desk.due("last byte", d.file.octet(5999), 10);
        Desk over = Desk.opened(text.replace("startxref", "\nstartxref"));
        over.pour(1, "x".repeat(4000));
        Desk.due("6001 bytes", over.save(), -3);
        Desk.due("OUT stays", over.file.octet(-1), 0);
        Desk.due("changes stay", over.count(3), 1);
        over.call(PaperFile::trailer);
        Desk.due("OUT", over.bytes(0), 4);
        Desk.due("6001 bytes again", over.save(), -3);
        Desk.due("OUT stays", over.out(), "Size");
        Desk first = Desk.opened(Paper.of("1", Paper.stream("", "b".repeat(2000))));
        first.put(1, "2");
        int size = first.save();
        String saved = first.out();
        Desk.due("a save", size > 2000, true);
        first.pour(1, "x".repeat(4000));
        Desk.due("far above 6000 bytes", first.save(), -3);
        Desk.due("OUT stays", first.out(), saved);
        first.put(1, "2");
        Desk.due("the save of before", first.save(), size);
    }

    /** Numbers up to the last there is. */
    private static void threeHundred() {
        Paper paper = new Paper().trailer("<</Size 300>>").last();
        Desk d = Desk.opened(paper.toString());
        int table = paper.table();
        d.put(298, "1");
        d.put(299, "2");
        Desk.due("in use", d.count(1), 2);
        Desk.due("changed", d.count(3), 2);
        Desk.due("parts", d.count(5), 2);
        saved(d, paper.object(298, "1").object(299, "2").trailer("<</Size 300 /Prev " + table + ">>").last().toString());
        Desk.due("pour", d.pour(299, "2"), 300);
        Desk.due("free", d.free(299), 1);
        Desk.due("changed", d.count(3), 2);
    }

    /** A file that has 6000 bytes when 4000 are poured into object 1. */
    private static String fitting() {
        for (int size = 1500; size < 2000; size++) {
            String text = Paper.of("1", Paper.stream("", "b".repeat(size)));
            Desk d = Desk.opened(text);
            d.pour(1, "");
            // "0" becomes "4000".
            if (d.save() + 4003 == 6000) {
                return text;
            }
        }
        throw new IllegalStateException("no size fits");
    }

    private static void whatStays() {
        Desk d = Desk.opened(Paper.of("[1]", "2"));
        d.put(2, "3");
        d.go(1);
        int size = d.save();
        Desk.due("the point stays", d.look(0), 6);
        Desk.due("changes stay", d.count(3), 1);
        Desk.due("its bytes stay", d.count(4), Paper.of("[1]", "2").length());
        Desk.due("tables stay", d.count(2), 1);
        Desk.due("save again", d.save(), size);
        d.put(3, "4");
        d.free(3);
        d.free(2);
        Desk.due("another save", d.save() > size, true);
    }
}
