/** The boundaries of STREAM and of DECODED, and of decode and octet: promises 12 and 13. */
public final class StreamEdgeTest {
    private static final String BROKEN = "BROKEN";

    public static void main(String[] args) {
        words();
        lengthInt();
        lengthByRef();
        lengthAndTheFile();
        noFilter();
        emptyRow();
        threeThousandBehindEach();
        hexDigits();
        hexEnd();
        runsBelow128();
        runsAbove128();
        runs128();
        base85Digits();
        base85Below2To32();
        base85Zeros();
        base85LastGroup();
        base85End();
        otherFilters();
        noneOfOthers();
        brokenStays();
        nothingOfTheOneBefore();
        octets();
        Desk.finish();
    }

    private static void stream(String what, int want, String value) {
        String text = new Paper().object(1, value).object(2, "3").object(3, 5, "2 0 R").object(4, "-1").object(5, "/A").object(6, 65535, "0")
                .object(7, 65536, "3").unused(8, 0).object(9, "-0").trailer("<</Size 11>>").last().toString();
        if (want == 0) {
            Desk.due(what, Desk.opened(text).go(1), 9);
        } else {
            FileEdgeTest.busy().tape(text).staysButTape(what, want, PaperFile::open);
        }
    }

    private static void words() {
        Desk.says("STREAM: a DICT, white or none, the WORD stream, a byte 10, then as many bytes");
        for (String between : new String[] {"", " ", "\n", "\r", "\r\n \n"}) {
            stream("between DICT and stream", 0, "<</Length 3>>" + between + "stream\nabc\nendstream");
        }
        for (String between : new String[] {"\t", "\0", "x", "/A", "1 "}) {
            stream("between DICT and stream", 5, "<</Length 3>>" + between + "stream\nabc\nendstream");
        }
        for (String line : new String[] {"", " ", "\r", "\r\n", "\t", " \n", "s\n"}) {
            stream("behind stream", 5, "<</Length 3>>stream" + line + "abc\nendstream");
        }
        stream("no stream but its bytes", 5, "<</Length 3>>\nabc\nendstream");
        stream("an ARRAY before", 5, "[/Length 3]stream\nabc\nendstream");
        Desk.says("then a byte 10, and the WORD endstream");
        stream("as it must be", 0, "<</Length 3>>stream\nabc\nendstream");
        for (String end : new String[] {"", "endstream", " endstream", "\rendstream", "\r\nendstream", "\n\nendstream", "\n endstream", "\nendstrea",
            "\nendstreams", "\nEndstream", "\nendstreamendobj"}) {
            stream("behind the bytes " + end, 5, "<</Length 3>>stream\nabc" + end);
        }
        Desk.due("white or none before endobj", new Desk().open(new Paper().used(1, 0, 9)
                .raw("1 0 obj<</Length 1>>stream\na\nendstream\r \nendobj\n").trailer("<</Size 2>>").last().toString()), 0);
    }

    private static void lengthInt() {
        Desk.says("as the INT (not below 0) behind Length in the DICT says");
        for (int size : new int[] {0, 1, 2, 20}) {
            String bytes = "\nendstream\nendobj\nxx".substring(0, size);
            stream("Length " + size, 0, "<</Length " + size + ">>stream\n" + bytes + "\nendstream");
            stream("Length one more", 5, "<</Length " + (size + 1) + ">>stream\n" + bytes + "\nendstream");
            if (size > 0) {
                stream("Length one less", 5, "<</Length " + (size - 1) + ">>stream\n" + bytes + "\nendstream");
            }
        }
        stream("Length -0", 0, "<</Length -0>>stream\n\nendstream");
        stream("Length 000000003", 0, "<</Length 000000003>>stream\nabc\nendstream");
        for (String length : new String[] {"-1", "-3", "-999999999", "999999999", "0000000003", "null", "(3)", "/3", "[3]", "<<>>", "true"}) {
            stream("Length " + length, 5, "<</Length " + length + ">>stream\nabc\nendstream");
        }
        for (String dict : new String[] {"<<>>", "<</length 3>>", "<</Lengt 3>>", "<</Lengths 3>>", "<</A<</Length 3>>>>", "<</A/Length/B 3>>"}) {
            stream("no Length", 5, dict + "stream\nabc\nendstream");
        }
        for (String none : new String[] {"", "/length 0", "/Length null", "/Length -1", "/Length()", "/Length[]", "/Length<<>>", "/Length 0 0 R", "/Length 8 0 R",
            "/Length 4 0 R", "/Length 5 0 R", "/Length 6 0 R", "/Length 9 1 R", "/Length 299 0 R"}) {
            stream("no Length and no bytes: " + none, 5, "<<" + none + ">>stream\n\nendstream");
            stream("no Length and one byte: " + none, 5, "<<" + none + ">>stream\nendstream");
        }
        Desk edges = Desk.opened(new Paper().object(0, Paper.stream("", "zero")).object(299, Paper.stream("", "last")).trailer("<</Size 300>>").last().toString());
        for (int n : new int[] {0, 299}) {
            Desk.due("a STREAM of number " + n, edges.go(n), 9);
            Desk.due("its bytes", edges.decode(), 4);
            Desk.due("OUT", edges.out(), n == 0 ? "zero" : "last");
        }
    }

    private static void lengthByRef() {
        Desk.says("or the object in use that a REF there leads to is");
        stream("to 3", 0, "<</Length 2 0 R>>stream\nabc\nendstream");
        stream("to 3, one byte less", 5, "<</Length 2 0 R>>stream\nab\nendstream");
        stream("to 3, one byte more", 5, "<</Length 2 0 R>>stream\nabcd\nendstream");
        stream("to 0 with the greatest generation", 0, "<</Length 6 65535 R>>stream\n\nendstream");
        stream("to -0", 0, "<</Length 9 0 R>>stream\n\nendstream");
        for (String ref : new String[] {"2 1 R", "3 5 R", "4 0 R", "5 0 R", "6 65534 R", "7 0 R", "8 0 R", "0 0 R", "1 0 R", "10 0 R", "11 0 R", "299 0 R"}) {
            stream("to what is none: " + ref, 5, "<</Length " + ref + ">>stream\nabc\nendstream");
        }
        Desk.due("of a number below", new Desk().open(Paper.of("2", "<</Length 1 0 R>>stream\nab\nendstream")), 0);
        Desk.due("of number 0", new Desk().open(new Paper().object(0, "2").object(1, "<</Length 0 0 R>>stream\nab\nendstream")
                .trailer("<</Size 2>>").last().toString()), 0);
        Desk.due("a STREAM as a Length", new Desk().open(Paper.of("<</Length 2 0 R>>stream\nab\nendstream", Paper.stream("", "ab"))), 5);
        Paper older = new Paper().object(1, "<</Length 2 0 R>>stream\nab\nendstream").object(2, "1").trailer("<</Size 3>>");
        Desk.due("the older Length is wrong", new Desk().open(older + "startxref\n" + older.table() + "\n%%EOF\n"), 5);
        Desk.due("the latest Length is right", new Desk().open(older.object(2, "2").trailer(3, "").last().toString()), 0);
    }

    private static void lengthAndTheFile() {
        String text = new Paper().object(1, "<</Length 00>>stream\n").trailer("<</Size 2>>").last().toString();
        int rest = text.length() - text.indexOf("stream\n") - 7;
        for (int size = rest - 2; size <= rest + 2; size++) {
            String told = text.replace("Length 00", "Length " + size);
            Desk.due("the text is as long as before", told.length(), text.length());
            new Desk().tape(told).staysButTape("bytes up to the file's end", 5, PaperFile::open);
        }
    }

    private static void decoded(String pairs, String bytes, String want) {
        Desk d = Desk.opened(Paper.of(Paper.stream(pairs, bytes), "(before)"));
        d.go(2);
        d.bytes(0);
        d.go(1);
        String what = pairs + " of " + bytes;
        if (want.equals(BROKEN)) {
            d.tape("the TAPE").stays(what, -4, PaperFile::decode);
        } else {
            Desk.due(what, d.decode(), want.length());
            Desk.due("OUT of " + what, d.out(), want);
            Desk.due("the point behind " + what, d.look(0), 9);
        }
    }

    private static void sized(String what, String pairs, String bytes, int want) {
        Desk d = Desk.opened(Paper.of(Paper.stream(pairs, bytes)));
        d.go(1);
        if (want < 0) {
            d.stays(what, want, PaperFile::decode);
        } else {
            Desk.due(what, d.decode(), want);
            Desk.due("size of OUT", d.octet(-1), want);
        }
    }

    private static void noFilter() {
        Desk.says("without one as they are");
        decoded("", "", "");
        decoded("", "ab\0\u00ff\u0080~>", "ab\0\u00ff\u0080~>");
        decoded("/filter/Hex", "4142", "4142");
        decoded("/Filte/Hex", "4142", "4142");
        decoded("/Filters/Hex", "4142", "4142");
        decoded("/A<</Filter/Hex>>", "4142", "4142");
        decoded("/A/Filter/B/Hex", "4142", "4142");
        Desk.says("and without one, too");
        sized("2999 bytes", "", "a".repeat(2999), 2999);
        sized("3000 bytes", "", "a".repeat(3000), 3000);
        sized("3001 bytes", "", "a".repeat(3001), -4);
        for (int size : new int[] {2999, 3000, 3001, 4000}) {
            Desk d = Desk.opened(Paper.of("1"));
            d.pour(1, "b".repeat(size));
            d.go(1);
            Desk.due("poured", d.decode(), size <= 3000 ? size : -4);
        }
    }

    private static void emptyRow() {
        Desk.says("a NAME, or an ARRAY of NAMES, one after the other");
        decoded("/Filter[]", "4142", "4142");
        sized("an empty row of 3000", "/Filter[]", "a".repeat(3000), 3000);
        sized("an empty row of 3001", "/Filter[]", "a".repeat(3001), -4);
        decoded("/Filter/Hex", "4142", "AB");
        decoded("/Filter[/Hex]", "4142", "AB");
        decoded("/Filter[/Hex/Hex]", "34313432", "AB");
        decoded("/Filter[/Hex/Runs]", "02616263ff7a80", "abczz");
        decoded("/Filter[/Runs/Hex]", "\u00ff4\u0080", "D");
        decoded("/Filter[/Runs/Hex]", "02616263fd7a80", BROKEN);
        decoded("/Filter[/Base85/Hex]", "1bggB~>", "AB");
        decoded("/Filter[" + "/Hex".repeat(60) + "]", "", "");
        String runs = "\u0081x\u0002abc\u0080";
        String grown = "x".repeat(128) + "abc";
        for (int times = 1; times <= 4; times++) {
            decoded("/Filter[" + "/Hex".repeat(times) + "/Runs]", hex(runs, times), grown);
            decoded("/Filter[/Runs" + "/Hex".repeat(times) + "/Runs]", literal(hex(runs, times)), grown);
            decoded("/Filter[" + "/Hex".repeat(times) + "/Base85]", hex("zz9jqo^z~>", times), "\0".repeat(8) + "Man " + "\0".repeat(4));
        }
    }

    /** What Hex, so many times, makes these bytes of. */
    private static String hex(String bytes, int times) {
        StringBuilder pairs = new StringBuilder();
        for (char b : bytes.toCharArray()) {
            pairs.append(String.format("%02x", (int) b));
        }
        return times == 1 ? pairs.toString() : hex(pairs.toString(), times - 1);
    }

    /** What Runs makes these bytes of, without repeating any. */
    private static String literal(String bytes) {
        StringBuilder runs = new StringBuilder();
        for (int at = 0; at < bytes.length(); at += 128) {
            String some = bytes.substring(at, Math.min(bytes.length(), at + 128));
            runs.append((char) (some.length() - 1)).append(some);
        }
        return runs.append('\u0080').toString();
    }

    private static void threeThousandBehindEach() {
        Desk.says("at most 3000 bytes behind each");
        String run = "\u0081" + "0";
        sized("2999 by Runs", "/Filter/Runs", run.repeat(23) + "\u00ca0\u0080", 2999);
        sized("3000 by Runs", "/Filter/Runs", run.repeat(23) + "\u00c90\u0080", 3000);
        sized("3001 by Runs", "/Filter/Runs", run.repeat(23) + "\u00c80\u0080", -4);
        String literal = ("\177" + "0".repeat(128)).repeat(23);
        sized("2999 by literal Runs", "/Filter/Runs", literal + "\66" + "0".repeat(55) + "\u0080", 2999);
        sized("3000 by literal Runs", "/Filter/Runs", literal + "\67" + "0".repeat(56) + "\u0080", 3000);
        sized("3001 by literal Runs", "/Filter/Runs", literal + "\70" + "0".repeat(57) + "\u0080", -4);
        sized("2999 by Base85", "/Filter/Base85", "z".repeat(749) + "!!!!~>", 2999);
        sized("3000 by Base85", "/Filter/Base85", "z".repeat(749) + "!!!!!~>", 3000);
        sized("3000 by zeros", "/Filter/Base85", "z".repeat(750) + "~>", 3000);
        sized("3001 by Base85", "/Filter/Base85", "z".repeat(750) + "!!~>", -4);
        sized("3004 by zeros", "/Filter/Base85", "z".repeat(751) + "~>", -4);
        sized("3000 digits behind the first of two", "/Filter[/Runs/Hex]", run.repeat(23) + "\u00c90\u0080", 1500);
        sized("3002 digits behind the first of two", "/Filter[/Runs/Hex]", run.repeat(23) + "\u00c70\u0080", -4);
        sized("3000 behind the second of two", "/Filter[/Hex/Runs]", "8130".repeat(23) + "c93080", 3000);
        sized("3001 behind the second of two", "/Filter[/Hex/Runs]", "8130".repeat(23) + "c83080", -4);
        sized("more than 3000 before the first", "/Filter/Hex", "30".repeat(1501), 1501);
        sized("more than 3000 before the first of two", "/Filter[/Hex/Hex]", "30".repeat(1800), 900);
    }

    private static void hexDigits() {
        Desk.says("Hex: pairs of digits of base 16");
        for (int b = 0; b < 256; b++) {
            int digit = b < 128 ? "0123456789abcdef".indexOf(Character.toLowerCase((char) b)) : -1;
            decoded("/Filter/Hex", (char) b + "1", digit < 0 ? BROKEN : String.valueOf((char) (16 * digit + 1)));
            if (b != '>') {
                decoded("/Filter/Hex", "f" + (char) b, digit < 0 ? BROKEN : String.valueOf((char) (240 + digit)));
            }
        }
        decoded("/Filter/Hex", "", "");
        decoded("/Filter/Hex", "4", BROKEN);
        decoded("/Filter/Hex", "41", "A");
        decoded("/Filter/Hex", "414", BROKEN);
    }

    private static void hexEnd() {
        Desk.says("up to the end or a > that is the last byte");
        decoded("/Filter/Hex", ">", "");
        decoded("/Filter/Hex", "41>", "A");
        for (String bad : new String[] {"4>", "414>", ">>", "41>>", ">41", "41>42", "41> ", "41>\n", "41 >", "<41>", "41>42>"}) {
            decoded("/Filter/Hex", bad, BROKEN);
        }
    }

    private static void runsBelow128() {
        Desk.says("Runs: a byte k below 128: the k + 1 bytes behind it");
        for (int k : new int[] {0, 1, 2, 126, 127}) {
            String bytes = "x".repeat(k) + "\u0080";
            decoded("/Filter/Runs", (char) k + bytes + "\u0080", bytes);
            decoded("/Filter/Runs", (char) k + bytes, BROKEN);
            decoded("/Filter/Runs", (char) k + bytes.substring(1), BROKEN);
            decoded("/Filter/Runs", (char) k + bytes + "\0y\u0080", bytes + "y");
        }
        decoded("/Filter/Runs", "\0", BROKEN);
    }

    private static void runsAbove128() {
        Desk.says("above 128: the one behind it 257 - k times");
        for (int k : new int[] {129, 130, 200, 254, 255}) {
            decoded("/Filter/Runs", (char) k + "x\u0080", "x".repeat(257 - k));
            decoded("/Filter/Runs", (char) k + "\u0080\u0080", "\u0080".repeat(257 - k));
            decoded("/Filter/Runs", (char) k + "x", BROKEN);
            decoded("/Filter/Runs", (char) k + "\u0080", BROKEN);
            decoded("/Filter/Runs", String.valueOf((char) k), BROKEN);
            decoded("/Filter/Runs", (char) k + "x\0y\u0080", "x".repeat(257 - k) + "y");
        }
    }

    private static void runs128() {
        Desk.says("128 is the last byte, and is always there");
        decoded("/Filter/Runs", "\u0080", "");
        decoded("/Filter/Runs", "", BROKEN);
        decoded("/Filter/Runs", "\0a", BROKEN);
        decoded("/Filter/Runs", "\u0080\u0080", BROKEN);
        decoded("/Filter/Runs", "\u0080\0a\u0080", BROKEN);
        decoded("/Filter/Runs", "\0a\u0080\n", BROKEN);
    }

    private static void base85Digits() {
        Desk.says("Base85: groups of five bytes 33 to 117");
        for (int b = 0; b < 256; b++) {
            boolean digit = b >= 33 && b <= 117;
            long value = digit ? 85L * (b - 33) : 0;
            String four = "\0\0" + (char) (value >> 8) + (char) (value & 255);
            decoded("/Filter/Base85", "!!!" + (char) b + "!~>", digit ? four : BROKEN);
            decoded("/Filter/Base85", "!!!!" + (char) b + "~>", digit ? "\0\0\0" + (char) (b - 33) : BROKEN);
            if (!digit && b != 'z') {
                decoded("/Filter/Base85", (char) b + "!!!!~>", BROKEN);
            }
        }
        decoded("/Filter/Base85", "!!!\"!~>", "\0\0\0U");
        decoded("/Filter/Base85", "!!\"!!~>", "\0\0\34\71");
        decoded("/Filter/Base85", "!\"!!!~>", "\0\11\136\355");
        decoded("/Filter/Base85", "\"!!!!~>", "\3\34\204\261");
        decoded("/Filter/Base85", "9jqo^9jqo^~>", "Man Man ");
    }

    private static void base85Below2To32() {
        Desk.says("four bytes, below 2^32");
        decoded("/Filter/Base85", "s8W,u~>", "\u00ff\u00ff\u00ff\u00fe");
        decoded("/Filter/Base85", "s8W-!~>", "\u00ff\u00ff\u00ff\u00ff");
        decoded("/Filter/Base85", "s8W-\"~>", BROKEN);
        decoded("/Filter/Base85", "s8W.!~>", BROKEN);
        decoded("/Filter/Base85", "s8X!!~>", BROKEN);
        decoded("/Filter/Base85", "s9!!!~>", BROKEN);
        decoded("/Filter/Base85", "t!!!!~>", BROKEN);
        decoded("/Filter/Base85", "uuuuu~>", BROKEN);
        decoded("/Filter/Base85", "s8W-!s8W-\"~>", BROKEN);
    }

    private static void base85Zeros() {
        Desk.says("z (122) in place of a group: four bytes 0");
        decoded("/Filter/Base85", "z~>", "\0\0\0\0");
        decoded("/Filter/Base85", "!!!!!~>", "\0\0\0\0");
        decoded("/Filter/Base85", "z9jqo^z~>", "\0\0\0\0Man \0\0\0\0");
        decoded("/Filter/Base85", "z!!~>", "\0\0\0\0\0");
        for (int at = 1; at < 5; at++) {
            decoded("/Filter/Base85", "!!!!!".substring(0, at) + "z" + "!!!!!".substring(at) + "~>", BROKEN);
            decoded("/Filter/Base85", "!!!!!".substring(0, at) + "z~>", BROKEN);
        }
    }

    private static void base85LastGroup() {
        Desk.says("a last group of n, 2 to 4: as if bytes 117 were behind it, the first n - 1 bytes");
        decoded("/Filter/Base85", "9~>", BROKEN);
        decoded("/Filter/Base85", "9j~>", "M");
        decoded("/Filter/Base85", "9jq~>", "Ma");
        decoded("/Filter/Base85", "9jqo~>", "Man");
        decoded("/Filter/Base85", "9jqo^~>", "Man ");
        decoded("/Filter/Base85", "9jqo^9~>", BROKEN);
        decoded("/Filter/Base85", "9jqo^9j~>", "Man M");
        decoded("/Filter/Base85", "9jqo^9jq~>", "Man Ma");
        decoded("/Filter/Base85", "9jqo^9jqo~>", "Man Man");
        decoded("/Filter/Base85", "!!~>", "\0");
        decoded("/Filter/Base85", "!<~>", "\1");
        decoded("/Filter/Base85", "!u~>", "\3");
        decoded("/Filter/Base85", "!;~>", "\0");
        decoded("/Filter/Base85", "rq~>", "\u00fe");
        decoded("/Filter/Base85", "rr~>", "\u00ff");
        decoded("/Filter/Base85", "s7~>", "\u00ff");
        decoded("/Filter/Base85", "s8~>", BROKEN);
        decoded("/Filter/Base85", "s8V~>", "\u00ff\u00ff");
        decoded("/Filter/Base85", "s8W~>", BROKEN);
        decoded("/Filter/Base85", "s8W,~>", "\u00ff\u00ff\u00ff");
        decoded("/Filter/Base85", "s8W-~>", BROKEN);
        // With any other bytes behind them these would give one less.
        decoded("/Filter/Base85", "F8~>", "\u0074");
        decoded("/Filter/Base85", "rV~>", "\u00fe");
        decoded("/Filter/Base85", "!\"J~>", "\0\16");
        decoded("/Filter/Base85", "!-%~>", "\0\161");
        decoded("/Filter/Base85", "!!#s~>", "\0\0\124");
        decoded("/Filter/Base85", "!!-!~>", "\0\1\123");
        decoded("/Filter/Base85", "!v~>", BROKEN);
        decoded("/Filter/Base85", "! ~>", BROKEN);
    }

    private static void base85End() {
        Desk.says("then ~ and >, the last bytes");
        decoded("/Filter/Base85", "~>", "");
        for (String bad : new String[] {"", "~", ">", "9jqo^", "9jqo^~", "9jqo^>", "9jqo^>~", "9jqo^~>>", "9jqo^~> ", "9jqo^~>\n", "~>~>", "9jqo^~~>", " ~>",
            "~ >", "9jqo^~>9jqo^~>"}) {
            decoded("/Filter/Base85", bad, BROKEN);
        }
    }

    private static void otherFilters() {
        Desk.says("another Filter (what is no NAME and no ARRAY, a REF, too)");
        for (String filter : new String[] {"/hex", "/He", "/Hexx", "/runs", "/Run", "/Runss", "/base85", "/Base8", "/Base855", "/X", "(Hex)", "<486578>", "null",
            "true", "1", "<<>>", "<</A/Hex>>", "2 0 R", "3 0 R", "[/X]", "[/Hex/X]", "[/X/Hex]", "[null]", "[(Hex)]", "[1]", "[[/Hex]]", "[[]]", "[2 0 R]",
            "[/Hex 2 0 R]", "[<<>>]"}) {
            Desk d = Desk.opened(Paper.of(Paper.stream("/Filter " + filter, "3431"), "/Hex"));
            d.go(1);
            d.stays("Filter " + filter, -4, PaperFile::decode);
        }
    }

    private static void noneOfOthers() {
        Desk.says("NONE if THE POINT is no STREAM, or there is none");
        String[] values = {"null", "true", "false", "1", "/Hex", "(41)", "[/Filter/Hex]", "<</Filter/Hex/Length 2>>", "9 0 R", Paper.stream("", "a")};
        Desk d = Desk.opened(Paper.of(values)).tape("41");
        d.stays("without a point", -2, PaperFile::decode);
        for (int n = 1; n <= 9; n++) {
            d.go(n);
            d.stays("of " + values[n - 1], -2, PaperFile::decode);
        }
        d.go(10);
        Desk.due("of a STREAM", d.decode(), 1);
        d.item(0);
        d.stays("of its Length", -2, PaperFile::decode);
        new Desk().tape("41").stays("without a file", -2, PaperFile::decode);
    }

    private static void brokenStays() {
        Desk.says("BROKEN (OUT stays)");
        Desk d = Desk.opened(Paper.of(Paper.stream("/Filter/Hex", "414243"), Paper.stream("/Filter/Hex", "51525g"), Paper.stream("", "x".repeat(3001))));
        d.go(1);
        Desk.due("a STREAM", d.decode(), 3);
        d.go(2);
        d.stays("a broken one", -4, PaperFile::decode);
        d.go(3);
        d.stays("one with too many", -4, PaperFile::decode);
        Desk.due("OUT", d.out(), "ABC");
    }

    /** What one decode leaves behind is no part of the next. */
    private static void nothingOfTheOneBefore() {
        String[] filters = {"/Filter/Hex", "/Filter[/Hex/Hex]", "/Filter[/Hex/Hex/Hex]", "/Filter[/Hex/Runs]", "/Filter[/Hex/Base85]", "/Filter[/Runs/Hex]"};
        String[] longer = {"41424344", "3431343234333434", "33343331333433313334333133343331", "0341424344fe4580", "396a716f5e396a716f5e7e3e", "\u0005414243\u0080"};
        String[] shorter = {"414", "343134", "333433", "024142", "396a716f5e", "\u0002414\u0080"};
        for (int k = 0; k < filters.length; k++) {
            Desk d = Desk.opened(Paper.of(Paper.stream(filters[k], longer[k]), Paper.stream(filters[k], shorter[k])));
            for (int times = 1; times <= 3; times++) {
                d.go(1);
                Desk.due("a decode of " + longer[k], d.decode() > 1, true);
                d.go(2);
                d.stays("then one of " + shorter[k], -4, PaperFile::decode);
            }
        }
        Desk turns = Desk.opened(Paper.of(Paper.stream("/Filter/Hex", "414243"), Paper.stream("", "plain"), Paper.stream("/Filter[]", "empty"),
                Paper.stream("/Filter[/Hex/Hex]", "34343435")));
        String[] want = {"ABC", "plain", "empty", "DE"};
        for (int n : new int[] {1, 2, 4, 3, 1, 3, 4, 2, 1, 1, 2}) {
            turns.go(n);
            Desk.due("decode of " + n, turns.decode(), want[n - 1].length());
            Desk.due("OUT of " + n, turns.out(), want[n - 1]);
        }
    }

    private static void octets() {
        Desk.says("Byte i of OUT; -1: how many it has. NONE.");
        for (int size : new int[] {0, 1, 2, 99, 100}) {
            Desk d = Desk.opened(Paper.of("(" + "\u00ff".repeat(size) + ")"));
            d.go(1);
            d.bytes(0);
            Desk.due("how many", d.octet(-1), size);
            for (int i = 0; i < size; i++) {
                Desk.due("octet " + i, d.octet(i), 255);
            }
            for (int i : new int[] {size, size + 1, -2, -3, 6000, Integer.MIN_VALUE, Integer.MAX_VALUE}) {
                d.stays("octet " + i, -2, x -> x.octet(i));
            }
        }
        for (int b = 0; b < 256; b++) {
            Desk d = Desk.opened(Paper.of(Paper.stream("", String.valueOf((char) b))));
            d.go(1);
            d.bytes(-1);
            Desk.due("octet", d.octet(0), b);
        }
    }
}
