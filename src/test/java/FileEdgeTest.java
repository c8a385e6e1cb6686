/** The boundaries of FILE, TABLE, SECTIONS, the ENTRY and the FAULTS: promise 4. */
public final class FileEdgeTest {
    private static final String ENTRY_F = Paper.entry(0, 0, 'f');

    public static void main(String[] args) {
        begins();
        ends();
        endNumber();
        lastStartxref();
        nothingRegularBefore();
        wordsBeginAtPlaces();
        placeInTheFile();
        tableWords();
        oneSectionOrMore();
        firstAndCount();
        countZero();
        entryBytes();
        trailerLine();
        sizeOneTo300();
        prevAnInt();
        sixTables();
        noneTwice();
        numberTwice();
        numberAbove299();
        numberIsSize();
        latestEntry();
        belowTheLatestSize();
        freeOnes();
        placeOfAnObject();
        generationOfAnObject();
        objectWords();
        numbersWithZeros();
        firstFault();
        sameTableFirst();
        parts900();
        whatIsAPart();
        openWithoutFault();
        openWithFault();
        Desk.finish();
    }

    /** A text for each fault, at the number of the fault; a file without one at 0. */
    static String[] oneOfEachFault() {
        String good = Paper.of("1");
        return new String[] {good, good.substring(1), good + " ", good.replace("xref\n0 2", "xrex\n0 2"), good.replace("Size 2", "Size 1"),
            good.replace("endobj", "endobi")};
    }

    /** A desk on which all is different from what is there at first. */
    static Desk busy() {
        Desk d = Desk.opened(Paper.sample());
        d.put(9, "[(nine) 7 0 R]");
        d.pour(10, "poured");
        d.free(8);
        d.go(3);
        d.bytes(1);
        d.go(9);
        d.item(1);
        return d;
    }

    private static void fault(String what, int want, String text) {
        if (want == 0) {
            Desk.due(what, new Desk().open(text), 0);
            return;
        }
        new Desk().tape(text).staysButTape(what, want, PaperFile::open);
        if (text.length() < 3000) {
            busy().tape(text).staysButTape(what + ", behind another file", want, PaperFile::open);
        }
    }

    private static void fault(String what, int want, Paper paper) {
        fault(what, want, paper.toString());
    }

    private static void begins() {
        Desk.says("FILE: begins with %PDF-1. and a digit");
        String good = Paper.of("1");
        for (int size = 0; size <= 7; size++) {
            fault("cut to " + size, 1, good.substring(0, size));
        }
        fault("cut to 8", 2, good.substring(0, 8));
        for (int b = 0; b < 256; b++) {
            boolean digit = b >= '0' && b <= '9';
            fault("byte " + b, digit ? 0 : 1, "%PDF-1." + (char) b + good.substring(8));
        }
        for (int at = 0; at < 7; at++) {
            fault("another byte at " + at, 1, good.substring(0, at) + (char) (good.charAt(at) + 1) + good.substring(at + 1));
        }
        fault("a byte before", 1, "\n" + good);
    }

    private static void ends() {
        Desk.says("ends with the WORD startxref, a byte 10, a number without a sign, 10, %%EOF, 10.");
        String good = Paper.of("1");
        int start = good.lastIndexOf("startxref");
        for (int size = start; size < good.length(); size++) {
            fault("cut at " + size, 2, good.substring(0, size));
        }
        for (int at = start; at < good.length(); at++) {
            boolean number = good.charAt(at) >= '0' && good.charAt(at) <= '9';
            if (!number) {
                fault("another byte at " + at, 2, good.substring(0, at) + (char) (good.charAt(at) + 1) + good.substring(at + 1));
                fault("a return at " + at, 2, good.substring(0, at) + "\r" + good.substring(at + 1));
            }
            if (at > start) {
                fault("a space at " + at, 2, good.substring(0, at) + " " + good.substring(at));
            }
        }
        for (String more : new String[] {" ", "\n", "\r", "\0", "x", "%", "%%EOF\n"}) {
            fault("more behind", 2, good + more);
        }
    }

    private static String ending(String number) {
        return new Paper().trailer("<</Size 1>>").raw("startxref\n" + number + "\n%%EOF\n").toString();
    }

    private static void endNumber() {
        Desk.says("a number without a sign, 10, %%EOF, 10.");
        fault("one digit", 0, ending("9"));
        fault("nine digits", 0, ending("000000009"));
        for (String number : new String[] {"", "0000000009", "-9", "+9", "9a", "a9", " 9", "9 ", "9 9", "9(", "9\n", "\n9", "9/"}) {
            fault("number " + number, 2, ending(number));
        }
    }

    private static void lastStartxref() {
        Desk.says("startxref: the last place where these nine bytes stand");
        Paper twice = new Paper().raw("startxref\n9\n%%EOF\n").trailer("<</Size 1>>").last();
        fault("another before", 0, twice);
        fault("one in the trailer", 0, new Paper().trailer("<</Size 1/A(startxref)>>").last());
        fault("one in front of the last", 0, new Paper().trailer("<</Size 1>>").raw("startxref ").last());
        fault("one right before the last", 2, new Paper().trailer("<</Size 1>>").raw("startxref").last());
        fault("one behind the last", 2, twice + "startxref");
        fault("one in the number", 2, ending("startxref"));
    }

    private static void nothingRegularBefore() {
        Desk.says("no regular byte before it");
        for (int b = 0; b < 256; b++) {
            boolean regular = b >= 33 && b <= 126 && "()<>[]/".indexOf(b) < 0;
            fault("byte " + b + " before startxref", regular ? 2 : 0,
                    new Paper().sections().raw("trailer\n<</Size 1>>" + (char) b).last());
        }
        fault("the first digit before startxref", 2, "%PDF-1.4startxref\n9\n%%EOF\n");
        fault("a line between", 3, "%PDF-1.4\nstartxref\n9\n%%EOF\n");
    }

    private static void wordsBeginAtPlaces() {
        Desk.says("at a place that a number tells a WORD begins, whatever is before");
        for (int b = 0; b < 256; b++) {
            String before = String.valueOf((char) b);
            fault("byte " + b + " before xref", 0, new Paper().raw(before).trailer("<</Size 1>>").last());
            fault("byte " + b + " before an object", 0, new Paper().raw(before).object(1, "5").trailer("<</Size 2>>").last());
            fault("byte " + b + " before an older xref", 0, new Paper().raw(before).trailer("<</Size 1>>").trailer(1, "").last());
        }
    }

    private static void placeInTheFile() {
        Desk.says("A place that is not in the file, or stands twice in the row of tables, is fault 3 (of the table to come).");
        Paper paper = new Paper().trailer("<</Size 1>>");
        int size = paper.size() + "startxref\n000\n%%EOF\n".length();
        for (int place : new int[] {0, 8, 10, size - 1, size, size + 1, 999}) {
            fault("latest at " + place, 3, paper + String.format("startxref\n%03d\n%%%%EOF\n", place));
        }
        fault("latest far away", 3, paper + "startxref\n999999999\n%%EOF\n");
        fault("latest where it is", 0, paper + "startxref\n009\n%%EOF\n");
        for (String prev : new String[] {"0", "-1", "-9", "8", "10", "4000", "999999999", "-999999999"}) {
            fault("older at " + prev, 3, new Paper().trailer("<</Size 1>>").trailer("<</Size 1/Prev " + prev + ">>").last());
        }
        fault("older where it is", 0, new Paper().trailer("<</Size 1>>").trailer("<</Size 1/Prev 9>>").last());
        String before = new Paper().unused(1, 5).trailer("<</Size 2>>").last().toString();
        for (int back = 1; back <= before.length(); back++) {
            Desk d = Desk.opened(before);
            d.tape(new Paper().trailer("<</Size 2/Prev -" + back + ">>").last().toString())
                    .staysButTape("older by " + back + ", as if the file before were of this one", 3, PaperFile::open);
        }
        String exact = new Paper().trailer("<</Size 1/Prev 0062>>").last(9).toString();
        Desk.due("the length of the file", exact.length(), 66);
        fault("older at the first place behind the file", 3, exact.replace("0062", "0066"));
        fault("older at the last place in the file", 3, exact.replace("0062", "0065"));
    }

    private static void tableWords() {
        Desk.says("TABLE: xref, 10, SECTIONS");
        for (String word : new String[] {"xre\n", "xref", "xref \n", "xref\r", "xref\r\n", "xreff\n", "Xref\n", "xref\n\n", " xref\n", "xref\n "}) {
            fault("table " + word, 3, new Paper().raw(word + "0 0\ntrailer\n<</Size 1>>\n").last(9));
        }
        fault("table", 0, new Paper().raw("xref\n0 0\ntrailer\n<</Size 1>>\n").last(9));
    }

    private static String table(String sections, int size) {
        return new Paper().raw("xref\n" + sections + "trailer\n<</Size " + size + ">>\n").last(9).toString();
    }

    private static void oneSectionOrMore() {
        Desk.says("SECTIONS, one or more");
        fault("no section", 3, table("", 1));
        fault("one section", 0, table("0 1\n" + ENTRY_F, 1));
        fault("two sections", 0, table("0 1\n" + ENTRY_F + "1 1\n" + ENTRY_F, 2));
        fault("sections that fall", 0, table("5 1\n" + ENTRY_F + "3 2\n" + ENTRY_F + ENTRY_F + "0 1\n" + ENTRY_F, 6));
        StringBuilder many = new StringBuilder();
        for (int n = 0; n < 140; n++) {
            many.append(2 * n + 1).append(" 1\n").append(ENTRY_F);
        }
        fault("140 sections", 0, table(many.toString(), 300));
        fault("900 sections", 0, table("0 0\n".repeat(900), 1));
    }

    private static void firstAndCount() {
        Desk.says("a number without a sign FIRST, 32, one COUNT (0, too), 10, and COUNT times 20 bytes");
        fault("as it must be", 0, table("3 2\n" + ENTRY_F + ENTRY_F, 5));
        fault("nine digits", 0, table("000000003 000000002\n" + ENTRY_F + ENTRY_F, 5));
        for (String head : new String[] {"0000000003 2\n", "3 0000000002\n", "-3 2\n", "-0 2\n", "3 -2\n", "3  2\n", "3\n2\n", "3 2 \n", "3 2", "3 2\r",
            "3 2\r\n", "3\t2\n", " 3 2\n", "3 2\n\n", "3a 2\n", "3 2a\n", "3 1\n", "3 3\n", "3 0\n", "3 999999999\n", "3\n", " 2\n", "3 \n"}) {
            fault("section " + head, 3, table(head + ENTRY_F + ENTRY_F, 300));
        }
    }

    private static void countZero() {
        Desk.says("one COUNT (0, too)");
        for (String head : new String[] {"0 0\n", "299 0\n", "300 0\n", "999999999 0\n", "0 000000000\n"}) {
            fault("no number in " + head, 0, table(head, 1));
            fault("no number behind an entry in " + head, 0, table("0 1\n" + ENTRY_F + head, 1));
            fault("no number before an entry in " + head, 0, table(head + "0 1\n" + ENTRY_F, 1));
        }
        fault("the same COUNT 0 twice", 0, table("0 0\n0 0\n", 1));
        fault("an entry behind COUNT 0", 3, table("0 0\n" + ENTRY_F, 1));
    }

    private static void entryBytes() {
        Desk.says("ten digits, 32, five digits, 32, n or f, 32, 10");
        String good = "0123456789 01234 f \n";
        fault("as it must be", 0, table("0 1\n" + good, 1));
        fault("nines", 0, table("0 1\n9999999999 99999 f \n", 1));
        for (int at = 0; at < 20; at++) {
            fault("a byte less at " + at, 3, table("0 1\n" + good.substring(0, at) + good.substring(at + 1), 1));
            fault("a byte more at " + at, 3, table("0 1\n" + good.substring(0, at) + good.charAt(at) + good.substring(at), 1));
            for (char b : new char[] {'/', ':', '-', 'a', '\r', '\t', '\0', '\u00a0', '\u00b0'}) {
                fault("byte " + (int) b + " at " + at, 3, table("0 1\n" + good.substring(0, at) + b + good.substring(at + 1), 1));
            }
        }
        for (char b : "NFegmox0 ".toCharArray()) {
            fault("letter " + b, 3, table("0 1\n" + good.replace('f', b), 1));
        }
    }

    private static void trailerLine() {
        Desk.says("then trailer, 10, and a DICT");
        String table = "xref\n0 0\n";
        for (String word : new String[] {"", "traile", "trailers", "Trailer", " trailer", "\ntrailer"}) {
            fault("word " + word, 3, new Paper().raw(table + word + "\n<</Size 1>>\n").last(9));
        }
        for (String line : new String[] {"", " ", "\r", "\r\n", " \n", "\t", "\n[", "\n/A", "\n1 "}) {
            fault("behind trailer " + line, 4, new Paper().raw(table + "trailer" + line + "<</Size 1>>\n").last(9));
        }
        for (String dict : new String[] {"", "<<", "<</Size 1", "<</Size 1>", "[/Size 1]", "1", "null", "1 0 R", "<</Size 1/A>>", "<</Size 1/A 1/A 1>>"}) {
            fault("dict " + dict, 4, new Paper().raw(table + "trailer\n" + dict + "\n").last(9));
        }
        fault("anything behind the DICT", 0, new Paper().raw(table + "trailer\n<</Size 1>>>>]]))\0\n").last(9));
    }

    private static void sizeOneTo300() {
        Desk.says("a DICT in which Size is an INT, 1 to 300");
        for (String size : new String[] {"1", "2", "299", "300", "000000300", "000000001"}) {
            Desk d = Desk.opened(new Paper().trailer("<</Size " + size + ">>").last().toString());
            Desk.due("SIZE", d.count(0), Integer.parseInt(size));
        }
        for (String size : new String[] {"0", "-0", "-1", "301", "302", "999999999", "-300", "0000000001", "null", "(1)", "/1", "[1]", "1 0 R", "<<>>"}) {
            fault("Size " + size, 4, new Paper().trailer("<</Size " + size + ">>").last());
            fault("an older Size " + size, 4, new Paper().trailer("<</Size " + size + ">>").trailer(1, "").last());
        }
        for (String dict : new String[] {"<<>>", "<</size 1>>", "<</Siz 1>>", "<</Sizes 1>>", "<</A<</Size 1>>>>", "<</A/Size/B 1>>"}) {
            fault("no Size in " + dict, 4, new Paper().trailer(dict).last());
        }
    }

    private static void prevAnInt() {
        Desk.says("and Prev, if it is there, an INT");
        for (String prev : new String[] {"9", "000000009"}) {
            fault("Prev " + prev, 0, new Paper().trailer("<</Size 1>>").trailer("<</Size 1/Prev " + prev + ">>").last());
        }
        for (String prev : new String[] {"null", "true", "/9", "(9)", "[9]", "<<>>", "9 0 R", "0000000009"}) {
            fault("Prev " + prev, 4, new Paper().trailer("<</Size 1>>").trailer("<</Size 1/Prev " + prev + ">>").last());
        }
        for (String more : new String[] {"/prev 1", "/Pre 1", "/Previ 1", "/A<</Prev 1>>", "/A/Prev/B 1"}) {
            fault("no Prev", 0, new Paper().trailer("<</Size 1" + more + ">>").last());
        }
    }

    private static void sixTables() {
        Desk.says("at most 6 tables");
        Paper paper = new Paper();
        for (int tables = 1; tables <= 8; tables++) {
            paper.trailer(1, "");
            String text = paper + "startxref\n" + paper.table() + "\n%%EOF\n";
            if (tables <= 6) {
                Desk.due(tables + " tables", Desk.opened(text).count(2), tables);
            } else {
                fault(tables + " tables", 3, text);
            }
        }
    }

    private static void noneTwice() {
        Desk.says("none twice");
        fault("itself", 3, new Paper().trailer("<</Size 1/Prev 9>>").last());
        for (int tables = 2; tables <= 6; tables++) {
            for (int back = 1; back <= tables; back++) {
                circle(tables, back);
            }
        }
    }

    /** The oldest of some tables leads back to one of them: the latest, if back is as many as there are. */
    private static void circle(int tables, int back) {
        Paper paper = new Paper().trailer("<</Size 1/Prev 0000>>");
        int[] places = new int[tables + 1];
        places[1] = paper.table();
        for (int t = 2; t <= tables; t++) {
            paper.trailer(1, "");
            places[t] = paper.table();
        }
        String text = paper.last().toString().replace("0000>>", String.format("%04d>>", places[back]));
        fault(tables + " tables, back to " + back, 3, text);
    }

    private static void numberTwice() {
        Desk.says("No number of a section (FIRST on, COUNT of them) is twice in a table");
        fault("two sections side by side", 0, table("2 2\n" + ENTRY_F.repeat(2) + "4 2\n" + ENTRY_F.repeat(2), 6));
        fault("the last of one is the first of the next", 3, table("2 2\n" + ENTRY_F.repeat(2) + "3 2\n" + ENTRY_F.repeat(2), 6));
        fault("the first of one is the last of the next", 3, table("2 2\n" + ENTRY_F.repeat(2) + "1 2\n" + ENTRY_F.repeat(2), 6));
        fault("before it", 0, table("2 2\n" + ENTRY_F.repeat(2) + "0 2\n" + ENTRY_F.repeat(2), 6));
        fault("the same", 3, table("0 1\n" + ENTRY_F + "0 1\n" + ENTRY_F, 6));
        fault("the same, far from each other", 3, table("0 1\n" + ENTRY_F + "5 1\n" + ENTRY_F + "0 1\n" + ENTRY_F, 6));
        fault("299 twice", 3, table("299 1\n" + ENTRY_F + "299 1\n" + ENTRY_F, 300));
        fault("n and f", 3, new Paper().object(1, "1").unused(1, 0).trailer("<</Size 2>>").last());
        fault("in two tables", 0, new Paper().unused(1, 0).trailer("<</Size 2>>").unused(1, 0).trailer(2, "").last());
        fault("twice in the older table", 3, new Paper().unused(1, 0).unused(1, 0).trailer("<</Size 2>>").trailer(2, "").last());
        fault("above the latest Size, twice in the older one", 3,
                new Paper().unused(5, 0).unused(5, 0).trailer("<</Size 6>>").trailer(2, "").last());
    }

    private static void numberAbove299() {
        Desk.says("or above 299 (fault 3)");
        fault("299", 0, table("299 1\n" + ENTRY_F, 300));
        fault("298 and 299", 0, table("298 2\n" + ENTRY_F.repeat(2), 300));
        fault("300", 3, table("300 1\n" + ENTRY_F, 300));
        fault("299 and 300", 3, table("299 2\n" + ENTRY_F.repeat(2), 300));
        fault("298 to 300", 3, table("298 3\n" + ENTRY_F.repeat(3), 300));
        fault("301", 3, table("301 1\n" + ENTRY_F, 300));
        fault("999999999", 3, table("999999999 1\n" + ENTRY_F, 300));
        fault("3 before 4", 3, table("300 1\n" + ENTRY_F, 301));
        fault("300 in the older table", 3, new Paper().unused(300, 0).trailer("<</Size 300>>").trailer(300, "").last());
    }

    private static void numberIsSize() {
        Desk.says("or is Size of that table or above (fault 4)");
        for (int size : new int[] {1, 2, 150, 299}) {
            fault("one below Size", 0, table(size - 1 + " 1\n" + ENTRY_F, size));
            fault("Size", 4, table(size + " 1\n" + ENTRY_F, size));
            fault("above Size", 4, table("299 1\n" + ENTRY_F, size));
            fault("up to Size", 4, table(size - 1 + " 2\n" + ENTRY_F.repeat(2), size));
            fault("in an older table", 4, new Paper().unused(size, 0).trailer("<</Size " + size + ">>").trailer(300, "").last());
        }
        fault("not in the last section", 4, table("5 1\n" + ENTRY_F + "0 1\n" + ENTRY_F, 5));
        fault("above the latest Size, but not its own", 0, new Paper().unused(5, 0).trailer("<</Size 6>>").trailer(1, "").last());
    }

    private static void latestEntry() {
        Desk.says("is that of the latest table that has one");
        Paper paper = new Paper().object(1, 1, "1").object(2, 1, "1").object(3, 1, "1").unused(4, 1).trailer("<</Size 6>>")
                .object(1, 2, "2").unused(2, 2).object(4, 2, "2").trailer(6, "")
                .object(1, 3, "3").object(2, 3, "3").trailer(6, "");
        Desk d = Desk.opened(paper.last().toString());
        int[][] want = {{0, 0, -2}, {1, 3, 3}, {1, 3, 3}, {1, 1, 1}, {1, 2, 2}, {0, 0, -2}};
        for (int n = 0; n < 6; n++) {
            Desk.due("in use " + n, d.state(n, 0), want[n][0]);
            Desk.due("generation " + n, d.state(n, 1), want[n][1]);
            Desk.due("value " + n, d.go(n) < 0 ? -2 : d.look(1), want[n][2]);
        }
    }

    private static void belowTheLatestSize() {
        Desk.says("THE ENTRY of a number below the latest table's Size");
        Paper paper = new Paper().object(3, 7, "3").object(4, 7, "4").object(5, 7, "5").unused(6, 7).trailer("<</Size 7>>").trailer(5, "");
        Desk d = Desk.opened(paper.last().toString());
        Desk.due("in use", d.count(1), 2);
        Desk.due("one below", d.go(4), 3);
        Desk.due("parts", d.count(5), 2);
        d.stays("Size", -2, x -> x.go(5));
        d.stays("state of Size", -2, x -> x.state(5, 0));
        Desk.due("put at Size", d.put(5, "1"), 6);
        Desk.due("has no entry", d.state(5, 1), 0);
        Desk.due("put behind it", d.put(6, "1"), 7);
        Desk.due("has no entry", d.state(6, 1), 0);
    }

    private static void freeOnes() {
        Desk.says("f, or without an entry: FREE");
        Desk d = Desk.opened(new Paper().unused(0, 65535).object(1, "1").trailer("<</Size 3>>").last().toString());
        for (int n : new int[] {0, 2}) {
            Desk.due("free " + n, d.state(n, 0), 0);
            d.stays("go " + n, -2, x -> x.go(n));
            d.stays("free " + n, -2, x -> x.free(n));
        }
        fault("the place of a free one may be any", 0, table("0 1\n9999999999 00000 f \n", 1));
    }

    private static void object(String what, int want, String written) {
        fault(what, want, new Paper().used(1, 3, 9).raw(written).trailer("<</Size 2>>").last());
    }

    private static void placeOfAnObject() {
        Desk.says("n: IN USE, at the place of the ten digits");
        for (long place : new long[] {0, 8, 10, 11, 4000, 999999999, 1L << 31, 1L << 32, (1L << 32) + 9, 9999999999L}) {
            fault("place " + place, 5, new Paper().used(1, 3, place).raw("1 3 obj 5 endobj\n").trailer("<</Size 2>>").last());
        }
        object("place 9", 0, "1 3 obj 5 endobj\n");
        String text = new Paper().used(1, 0, 0).trailer("<</Size 2>>").last().toString();
        for (int place = text.length() - 2; place <= text.length() + 1; place++) {
            fault("at the end of the file", 5, new Paper().used(1, 0, place).trailer("<</Size 2>>").last());
        }
    }

    private static void generationOfAnObject() {
        Desk.says("with the GENERATION of the five");
        for (int generation : new int[] {0, 1, 65534, 65535, 65536, 99999}) {
            Desk d = Desk.opened(new Paper().object(1, generation, "1").trailer("<</Size 2>>").last().toString());
            Desk.due("generation", d.state(1, 1), generation);
            fault("one more at the place", 5, new Paper().used(1, generation, 9).raw("1 " + (generation + 1) + " obj 5 endobj\n")
                    .trailer("<</Size 2>>").last());
        }
        object("one less at the place", 5, "1 2 obj 5 endobj\n");
        object("one more at the place", 5, "1 4 obj 5 endobj\n");
        object("another number at the place", 5, "2 3 obj 5 endobj\n");
        object("number 0 at the place", 5, "0 3 obj 5 endobj\n");
    }

    private static void objectWords() {
        Desk.says("the number, 32, the generation, 32, obj, white or none, an OBJECT or STREAM, white or none, endobj, as WORDS");
        for (String good : new String[] {"1 3 obj 5 endobj ", "1 3 obj[]endobj ", "1 3 obj\r\n 5\r\n endobj ", "1 3 obj(x)endobj[", "1 3 obj/A\nendobj(",
            "1 3 obj<<>>endobj\0"}) {
            object("object " + good, 0, good);
        }
        for (String bad : new String[] {"1  3 obj 5 endobj ", "1 3  obj 5 endobj ", "1\n3 obj 5 endobj ", "1 3\nobj 5 endobj ", "13 obj 5 endobj ",
            "1 3obj 5 endobj ", "1 3 obj5 endobj ", "1 3 obj 5endobj ", "1 3 obj 5 endobjs ", "1 3 obj 5 endob ", "1 3 objs 5 endobj ", "1 3 ob 5 endobj ",
            "1 3 obj endobj ", "1 3 obj 5 5 endobj ", "1 3 obj 5 ", "-1 3 obj 5 endobj ", "1 -3 obj 5 endobj ", "1 3 Obj 5 endobj ", "1 3 obj 5\tendobj ",
            "1 3 obj\t5 endobj ", "1 3 obj [] ] endobj ", " 1 3 obj 5 endobj "}) {
            object("object " + bad, 5, bad);
        }
    }

    private static void numbersWithZeros() {
        Desk.says("numbers may have 0s in front (9 digits at most)");
        object("nine digits", 0, "000000001 000000003 obj 5 endobj\n");
        object("two digits", 0, "01 03 obj 5 endobj\n");
        object("ten digits of the number", 5, "0000000001 3 obj 5 endobj\n");
        object("ten digits of the generation", 5, "1 0000000003 obj 5 endobj\n");
    }

    private static void firstFault() {
        Desk.says("FAULT of a text as a file, the first of");
        String bad = new Paper().used(1, 0, 0).trailer("<</Size 2>>").last().toString();
        fault("5", 5, bad);
        String four = bad.replace("Size 2", "Size 1");
        fault("4 and 5", 4, four);
        String three = four.replace(" n \n", " n  ");
        fault("3, 4 and 5", 3, three);
        String two = three.replace("EOF", "EOG");
        fault("2 to 5", 2, two);
        fault("1 to 5", 1, two.replace("%PDF", "%PDE"));
        String[] each = oneOfEachFault();
        for (int k = 0; k <= 5; k++) {
            fault("fault " + k + " alone", k, each[k]);
        }
    }

    private static void sameTableFirst() {
        Desk.says("4 what is behind that, of the same table (5, 3, .. of the next only then)");
        fault("4 of the latest, 3 of the next", 4, new Paper().trailer("<</Size 301/Prev 0>>").last());
        fault("3 of the next", 3, new Paper().trailer("<</Size 300/Prev 0>>").last());
        fault("4 of the latest, 4 of the next", 4, new Paper().trailer("<</Size 0>>").trailer(0, "").last());
        fault("4 of the second, 3 of the third", 4, new Paper().trailer("<</Size 301/Prev 0>>").trailer(1, "").last());
        Paper third = new Paper().trailer("<</Size 0>>");
        int second = third.size();
        fault("3 of the second, 4 of the third", 3, third.raw("xrex\n0 0\ntrailer\n<</Size 1/Prev 9>>\n")
                .trailer("<</Size 1/Prev " + second + ">>").last());
        fault("3 of the second, 5", 3, new Paper().used(1, 0, 0).trailer("<</Size 2/Prev 0>>").last());
        fault("4 of the second, 5", 4, new Paper().trailer("<</Size 0>>").used(1, 0, 0).trailer(2, "").last());
        fault("3 for a seventh, 5", 3, seventh());
    }

    private static Paper seventh() {
        Paper paper = new Paper();
        for (int t = 0; t < 6; t++) {
            paper.trailer(2, "");
        }
        return paper.used(1, 0, 0).trailer(2, "").last();
    }

    private static void parts900() {
        Desk.says("if all of them together have more than 900 PARTS");
        for (int parts : new int[] {899, 900}) {
            Desk.due("parts of one", Desk.opened(Paper.of(ChangeEdgeTest.array(parts))).count(5), parts);
            Desk.due("parts of two", Desk.opened(Paper.of(ChangeEdgeTest.array(parts - 1), "1")).count(5), parts);
            Desk.due("parts of three", Desk.opened(Paper.of("1", ChangeEdgeTest.array(parts - 3), "<</A 1>>")).count(5), parts);
        }
        for (int parts : new int[] {901, 902, 1000}) {
            fault("parts of one", 5, Paper.of(ChangeEdgeTest.array(parts)));
            fault("parts of two", 5, Paper.of(ChangeEdgeTest.array(parts - 1), "1"));
            fault("parts of three", 5, Paper.of("1", ChangeEdgeTest.array(parts - 3), "<</A 1>>"));
        }
        Paper hidden = new Paper().object(1, ChangeEdgeTest.array(900)).object(2, "[1 2 3]").trailer("<</Size 3>>");
        fault("a hidden one does not count", 0, hidden.unused(2, 0).trailer(3, "").last());
    }

    private static void whatIsAPart() {
        Desk.says("each OBJECT or STREAM, those in others, too; a STREAM and its DICT are one; trailers are none, nor are the names of a DICT");
        String[] values = {"null", "[]", "[1 2]", "[[]]", "<<>>", "<</A 1/B 2>>", "<</A<</B[1]>>>>", "(abc)", "1 0 R", "[1 0 R]", "/A"};
        int[] parts = {1, 1, 3, 2, 1, 3, 4, 1, 1, 2, 1};
        for (int k = 0; k < values.length; k++) {
            Desk.due("parts of " + values[k], Desk.opened(Paper.of(values[k])).count(5), parts[k]);
        }
        Desk.due("parts of a STREAM", Desk.opened(Paper.of(Paper.stream("", "abc"))).count(5), 2);
        Desk.due("parts of a STREAM", Desk.opened(Paper.of(Paper.stream("/A[1]", "abc"))).count(5), 4);
        Desk.due("parts of no object", Desk.opened(Paper.of()).count(5), 0);
        for (int many : new int[] {899, 900, 901}) {
            fault("a STREAM of " + many + " parts", many > 900 ? 5 : 0, Paper.of(Paper.stream("/A" + ChangeEdgeTest.array(many - 2), "")));
        }
        Desk t = Desk.opened(new Paper().object(1, ChangeEdgeTest.array(900)).trailer("<</Size 2/A" + ChangeEdgeTest.array(400) + ">>").last().toString());
        Desk.due("beside a trailer of 400", t.count(5), 900);
    }

    private static void openWithoutFault() {
        Desk.says("The TAPE as a text becomes THE FILE, without changes: 0");
        Desk d = busy();
        String text = Paper.of("1", "[2]");
        Desk.due("open", d.open(text), 0);
        int[] want = {3, 2, 1, 0, text.length(), 3};
        for (int what = 0; what < 6; what++) {
            Desk.due("count " + what, d.count(what), want[what]);
        }
        d.stays("no point", -2, x -> x.look(0));
        Desk.due("an object of the file before", d.go(9), -2);
        Desk.due("its trailer", d.trailer(), 7);
        Desk.due("names of its trailer", d.look(1), 1);
        Desk.due("no Root", d.find("Root"), -2);
        Desk.due("Size", d.find("Size"), 3);
        Desk.due("value of Size", d.look(1), 3);
        Desk.due("pages", d.pages(), -4);
        Desk.due("save", d.save(), text.length());
        Desk.due("OUT", d.out(), text);
        manyFiles();
    }

    /** Nothing of the files before is left, however many there were. */
    private static void manyFiles() {
        String many = new Paper().object(0, 4, "0").object(1, 5, "1").object(2, 6, "2").unused(3, 7).object(4, 8, Paper.stream("", "four"))
                .trailer("<</Size 7/A 1/B[2 3]>>").last().toString();
        String one = new Paper().object(5, 9, "[5[6 7]/Eight]").object(6, 9, "<</Nine(10)>>").trailer("<</Size 7>>").last().toString();
        Desk d = new Desk();
        for (int k = 0; k < 3; k++) {
            Desk.due("open", d.open(many), 0);
            d.put(0, "(x)");
            d.put(1, "[]");
            d.pour(7, "poured");
            d.free(2);
            for (int times = 0; times < 2; times++) {
                Desk.due("open another", d.open(one), 0);
                Desk alone = Desk.opened(one);
                Desk.due("all that can be seen", Seen.allOf(d), Seen.allOf(alone));
                changed(d);
                changed(alone);
                Desk.due("all that can be seen behind changes", Seen.allOf(d), Seen.allOf(alone));
            }
        }
    }

    private static void changed(Desk d) {
        d.put(1, "[1[2 3]/Four<</Five(six)>>]");
        d.put(2, "[[7 8 9]]");
        d.pour(7, "seven");
        d.free(6);
    }

    private static void openWithFault() {
        Desk.says("its FAULT if it has one (file, changes and point stay)");
        String[] each = oneOfEachFault();
        for (int k = 1; k <= 5; k++) {
            Desk d = busy();
            d.tape(each[k]).staysButTape("fault " + k, k, PaperFile::open);
            Desk.due("point", d.look(1), 7);
            Desk.due("changes", d.count(3), 3);
            Desk.due("SIZE", d.count(0), 11);
        }
    }
}
