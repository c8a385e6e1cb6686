/** Promises 12 and 13: decode, octet. */
public final class DecodeTest {
    private static final String BROKEN = "BROKEN";

    public static void main(String[] args) {
        noStream();
        plain();
        hex();
        runs();
        base85();
        rows();
        otherFilters();
        limits();
        octets();
        Desk.finish();
    }

    private static void decoded(String pairs, String bytes, String want) {
        Desk d = Desk.opened(Paper.of(Paper.stream(pairs, bytes), "(before)"));
        d.go(2);
        d.bytes(0);
        d.go(1);
        int answer = d.decode();
        String what = pairs + " of " + bytes;
        if (want.equals(BROKEN)) {
            Desk.due(what, answer, -4);
            Desk.due("OUT stays", d.out(), "before");
        } else {
            Desk.due(what, answer, want.length());
            Desk.due("OUT of " + what, d.out(), want);
        }
        Desk.due("the point stays", d.look(0), 9);
    }

    private static void noStream() {
        Desk d = Desk.opened(Paper.of("<</Filter/Hex/Length 2>>", "(41)"));
        Desk.due("without a point", d.decode(), -2);
        d.go(1);
        Desk.due("of a DICT", d.decode(), -2);
        d.go(2);
        Desk.due("of a STRING", d.decode(), -2);
    }

    private static void plain() {
        decoded("", "", "");
        decoded("", "abc\0\u00ff", "abc\0\u00ff");
        decoded("/Filter[]", "abc", "abc");
        decoded("/filter/Hex/Filters/Hex", "4142", "4142");
        decoded("/A<</Filter/Hex>>", "4142", "4142");
    }

    private static void hex() {
        String f = "/Filter/Hex";
        decoded(f, "", "");
        decoded(f, ">", "");
        decoded(f, "00fFA9aB", "\0\u00ff\u00a9\u00ab");
        decoded(f, "4142>", "AB");
        for (String w : new String[] {"4", "4>", "414", "4142>>", ">4142", "41>42", "41 42", "41\n", " 41", "4g", "g4", "<41>", "41>\n", "4\u00b1"}) {
            decoded(f, w, BROKEN);
        }
    }

    private static void runs() {
        String f = "/Filter/Runs";
        decoded(f, "\u0080", "");
        decoded(f, "\2abc\u0080", "abc");
        decoded(f, "\0a\1bc\u0080", "abc");
        decoded(f, "\u00ffa\u0080", "aa");
        decoded(f, "\u0081a\u0080", "a".repeat(128));
        decoded(f, "\177" + "abcd".repeat(32) + "\u0080", "abcd".repeat(32));
        decoded(f, "\0\u0080\u0080", "\u0080");
        decoded(f, "\u00fe\u0080\u0080", "\u0080".repeat(3));
        for (String w : new String[] {"", "\2abc", "\u00ffa", "\u0080\u0080", "\u0080a", "\2ab\u0080", "\u00ff", "\u00ff\u0080", "\0\u0080", "\5a\u0080"}) {
            decoded(f, w, BROKEN);
        }
    }

    private static void base85() {
        String f = "/Filter/Base85";
        decoded(f, "~>", "");
        decoded(f, "9jqo^~>", "Man ");
        decoded(f, "9jqo~>", "Man");
        decoded(f, "9jn~>", "Ma");
        decoded(f, "9`~>", "M");
        decoded(f, "!!!!!z9jqo^~>", "\0\0\0\0\0\0\0\0Man ");
        decoded(f, "zz~>", "\0".repeat(8));
        decoded(f, "z9jq~>", "\0\0\0\0Ma");
        decoded(f, "s8W-!~>", "\u00ff\u00ff\u00ff\u00ff");
        decoded(f, "s8W*~>", "\u00ff\u00ff\u00ff");
        decoded(f, "\\G~>", "\u00b9");
        decoded(f, "^2E~>", "\u00beo");
        decoded(f, "Ae0^~>", "f\17\u0089");
        for (String w : new String[] {"", "~", ">", "9jqo^", "9jqo^~", "9jqo^>", "9jqo^~> ", " ~>", "9~>", "9jqo^9~>", "9jz~>", "9jqoz~>",
                "9jzqo^~>", "s8W-\"~>", "s8W-~>", "uuuuu~>", "uu~>", "9jq v~>", "9jqv^~>", "9jqo\u0080~>", "~>~>", "9j~>qo^~>", "9jqo^\n~>"}) {
            decoded(f, w, BROKEN);
        }
    }

    private static void rows() {
        decoded("/Filter[/Hex]", "41>", "A");
        decoded("/Filter[/Hex/Runs]", "02616263fd7a80", "abczzzz");
        decoded("/Filter[/Hex/Hex/Hex]", "33343331333433313345", "AA");
        decoded("/Filter[/Hex/Hex]", "3431343e", BROKEN);
        decoded("/Filter[/Hex/Hex]", "343134323e>", "AB");
        decoded("/Filter[/Hex/Base85/Runs]", "73275e457e3e>", "aa");
        decoded("/Filter[/Hex/Base85]", "396a716f5e7e3e", "Man ");
        decoded("/Filter[/Runs/Hex/Base85]", "\15" + "396a716f5e7e3e" + "\u0080", "Man ");
    }

    private static void otherFilters() {
        for (String f : new String[] {"/hex", "/Hexx", "/He", "/Run", "/RunsX", "/Base8", "/Base855", "/FlateDecode", "(Hex)", "null", "1", "true",
                "<<>>", "2 0 R", "9 0 R", "[/Hex/X]", "[/X/Hex]", "[/Hex 2 0 R]", "[(Hex)]", "[[/Hex]]", "[null]"}) {
            decoded("/Filter " + f, "3431", BROKEN);
        }
        Desk d = Desk.opened(Paper.of(Paper.stream("/Filter 2 0 R", "4142"), "/Hex"));
        d.go(1);
        Desk.due("a REF to a NAME", d.decode(), -4);
    }

    /** Only how many: OUT would be long to read. */
    private static void sized(String pairs, String bytes, int want) {
        Desk d = Desk.opened(Paper.of(Paper.stream(pairs, bytes)));
        d.go(1);
        Desk.due(pairs + " of " + bytes.length() + " bytes", d.decode(), want);
        Desk.due("size of OUT", d.file.octet(-1), Math.max(0, want));
        Desk.due("the bytes as they are", d.bytes(-1), bytes.length());
    }

    private static void limits() {
        sized("", "a".repeat(3000), 3000);
        sized("", "a".repeat(3001), -4);
        sized("/Filter[]", "a".repeat(3001), -4);
        sized("/Filter/Hex", "61".repeat(1800), 1800);
        sized("/Filter/Runs", "\u0081a".repeat(23) + "\u00c9a".repeat(1) + "\u0080", 3000);
        sized("/Filter/Runs", "\u0081a".repeat(23) + "\u00c8a".repeat(1) + "\u0080", -4);
        sized("/Filter/Runs", "\u0081a".repeat(1500) + "\u0080", -4);
        String literal = ("\177" + "a".repeat(128)).repeat(23);
        sized("/Filter/Runs", literal + "\67" + "b".repeat(56) + "\u0080", 3000);
        sized("/Filter/Runs", literal + "\70" + "b".repeat(57) + "\u0080", -4);
        sized("/Filter/Base85", "z".repeat(750) + "~>", 3000);
        sized("/Filter/Base85", "z".repeat(750) + "!!~>", -4);
        sized("/Filter/Base85", "z".repeat(749) + "!!!!~>", 2999);
        sized("/Filter[/Base85/Runs]", "z".repeat(751) + "~>", -4);
        sized("/Filter[/Hex/Runs]", "8161".repeat(900) + "80", -4);
        Desk d = Desk.opened(Paper.of("1"));
        Desk.due("pour", d.pour(1, "b".repeat(3001)), 2);
        d.go(1);
        Desk.due("a poured STREAM of too many", d.decode(), -4);
        d.pour(1, "b".repeat(3000));
        d.go(1);
        Desk.due("a poured STREAM", d.decode(), 3000);
    }

    private static void octets() {
        Desk d = Desk.opened(Paper.of("(\0\u0080\u00ff)"));
        Desk.due("no OUT yet", d.file.octet(-1), 0);
        d.go(1);
        d.bytes(0);
        int[] want = {0, 128, 255};
        for (int i = 0; i < 3; i++) {
            Desk.due("octet " + i, d.file.octet(i), want[i]);
        }
        Desk.due("how many", d.file.octet(-1), 3);
        Desk.due("octet 3", d.file.octet(3), -2);
        Desk.due("octet -2", d.file.octet(-2), -2);
        Desk.due("octet MIN", d.file.octet(Integer.MIN_VALUE), -2);
        Desk.due("octet MAX", d.file.octet(Integer.MAX_VALUE), -2);
        d.put(1, "()");
        d.go(1);
        d.bytes(0);
        Desk.due("none", d.file.octet(-1), 0);
        Desk.due("octet 0", d.file.octet(0), -2);
    }
}
