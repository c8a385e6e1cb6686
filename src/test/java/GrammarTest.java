/** The OBJECTS of the Terms, one by one, as put and open read them. */
public final class GrammarTest {
    private static final String FILE = Paper.of("null");

    public static void main(String[] args) {
        words();
        ints();
        names();
        strings();
        pairs();
        arrays();
        dicts();
        refs();
        depth();
        whiteAround();
        Desk.finish();
    }

    /** put and open agree on what is an OBJECT; what it is, is its kind, or -4 for none. */
    private static Desk kind(String written, int want) {
        Desk d = Desk.opened(FILE);
        int answer = d.put(1, written);
        Desk.due("put " + written, answer < 0 ? answer : d.go(1), want);
        Desk other = new Desk();
        int fault = other.open(Paper.of(written));
        Desk.due("open " + written, fault == 0 ? other.go(1) : -fault, want == -4 ? -5 : want);
        return d;
    }

    private static void measured(String written, int want, int one, int two) {
        Desk d = kind(written, want);
        Desk.due("look(0) of " + written, d.look(0), want);
        Desk.due("look(1) of " + written, d.look(1), one);
        Desk.due("look(2) of " + written, d.look(2), two);
    }

    private static void string(String written, String bytes) {
        measured(written, 5, bytes.length(), 0);
        Desk d = Desk.opened(Paper.of(written));
        d.go(1);
        Desk.due("bytes of " + written, d.bytes(0), bytes.length());
        Desk.due("OUT of " + written, d.out(), bytes);
    }

    private static void words() {
        measured("null", 0, 0, 0);
        measured("true", 1, 0, 0);
        measured("false", 2, 0, 0);
        for (String w : new String[] {"Null", "nul", "nulls", "True", "true1", "fals", "R", "obj", "stream", "%", "{}"}) {
            kind(w, -4);
        }
        kind("", -4);
        kind(" ", -4);
        kind("null null", -4);
        kind("null\0", -4);
        kind("null\t", -4);
        kind("null\u00ff", -4);
        kind(")", -4);
        kind(">", -4);
        kind("]", -4);
    }

    private static void ints() {
        measured("0", 3, 0, 0);
        measured("-0", 3, 0, 0);
        measured("007", 3, 7, 0);
        measured("999999999", 3, 999999999, 0);
        measured("-999999999", 3, -999999999, 0);
        measured("-2", 3, -2, 0);
        for (String w : new String[] {"1000000000", "0000000001", "-", "--1", "+1", "1-", "1.0", "1e3", "0x1", "1 2", "-1-"}) {
            kind(w, -4);
        }
    }

    private static void names() {
        measured("/A", 4, 1, 0);
        measured("/12345678901234567890", 4, 20, 0);
        measured("/#41%{}|~!", 4, 9, 0);
        measured("/\\", 4, 1, 0);
        for (String w : new String[] {"/123456789012345678901", "/", "/ A", "//A", "/A/B", "/A(", "/A\u007f", "/A\0"}) {
            kind(w, -4);
        }
    }

    private static void strings() {
        string("()", "");
        string("(a b)", "a b");
        string("(\0\1\r\n\u0080\u00ff)", "\0\1\r\n\u0080\u00ff");
        string("(<>[]/%)", "<>[]/%");
        string("(\\(\\)\\\\)", "()\\");
        string("(\\000\\101\\377\\0011)", "\0A\u00ff\0011");
        string("(" + "a".repeat(100) + ")", "a".repeat(100));
        string("(" + "\\141".repeat(100) + ")", "a".repeat(100));
        string("(" + "\\)".repeat(100) + ")", ")".repeat(100));
        kind("(" + "a".repeat(101) + ")", -4);
        kind("(" + "\\141".repeat(101) + ")", -4);
        for (String w : new String[] {"(", "(a", "(a\\)", "(()", "())", "(())", "(\\n)", "(\\1)", "(\\12)", "(\\400)", "(\\777)",
                "(\\378)", "(\\18 )", "(\\)", "(a) b", "(a)(b)", "(\\", "(\\1", "(\\12"}) {
            kind(w, -4);
        }
    }

    private static void pairs() {
        string("<>", "");
        string("<00fFA9aB>", "\0\u00ff\u00a9\u00ab");
        string("<" + "61".repeat(100) + ">", "a".repeat(100));
        kind("<" + "61".repeat(101) + ">", -4);
        for (String w : new String[] {"<", "<6", "<61", "<6>", "<616>", "<6g>", "<g6>", "<61 61>", "< 61>", "<61 >", "<61>>", "<-1>", "<@a>",
                "<`a>", "<:0>", "</0>"}) {
            kind(w, -4);
        }
    }

    private static void arrays() {
        measured("[]", 6, 0, 0);
        measured("[ \r\n]", 6, 0, 0);
        measured("[1]", 6, 1, 0);
        measured("[1()/A/B[]<</C/D>><00>null 1 0 R[]-1]", 6, 11, 0);
        measured("[1 2 3 R]", 6, 2, 0);
        measured("[1 2 R 3]", 6, 2, 0);
        measured("[1 2 3 4 R 5]", 6, 4, 0);
        measured("[" + "1 ".repeat(60) + "]", 6, 60, 0);
        measured("[" + "1 2 R ".repeat(60) + "]", 6, 60, 0);
        kind("[" + "1 ".repeat(61) + "]", -4);
        for (String w : new String[] {"[", "[1", "[1 ", "[[]", "[]]", "[R]", "[1 R]", "[1 2 R R]", "[1,2]", "[1\t2]", "[>]", "[endobj]"}) {
            kind(w, -4);
        }
    }

    private static void dicts() {
        measured("<<>>", 7, 0, 0);
        measured("<< \r\n>>", 7, 0, 0);
        measured("<</A 1>>", 7, 1, 0);
        measured("<</A/B/C[]/D()/E<41>/F<<>>/G 1 0 R/H null>>", 7, 7, 0);
        measured("<</A 1/a 1/AA 1/B<</A 1>>>>", 7, 4, 0);
        StringBuilder thirty = new StringBuilder();
        for (int k = 0; k < 30; k++) {
            thirty.append("/N").append(k).append(' ').append(k);
        }
        measured("<<" + thirty + ">>", 7, 30, 0);
        kind("<<" + thirty + "/M 1>>", -4);
        kind("<<" + thirty.toString().replace("/N29", "/N0") + ">>", -4);
        for (String w : new String[] {"<<", "<<>", "<<> >", "< <>>", "<</A>>", "<</A 1", "<</A 1>", "<</A 1> >", "<</A 1/A 1>>",
                "<</A 1/B 2/A 3>>", "<</A[]/B()/A[]>>", "<<1 2>>", "<<A 1>>", "<</A 1 2>>", "<</ 1>>", "<</A 1]>>", "<</A 1>>>>",
                "<</123456789012345678901 1>>", "<</A/B/C>>", "<<(A) 1>>"}) {
            kind(w, -4);
        }
    }

    private static void refs() {
        measured("1 0 R", 8, 1, 0);
        measured("299 65535 R", 8, 299, 65535);
        measured("000000299 000065535 R", 8, 299, 65535);
        measured("0\r\n0\n\rR", 8, 0, 0);
        measured("7   8   R", 8, 7, 8);
        for (String w : new String[] {"300 0 R", "0 65536 R", "-1 0 R", "0 -1 R", "-0 0 R", "1 R", "1 0 Rx", "1 0 r", "1 0R", "1 0", "1 0 0 R",
                "0000000001 0 R", "1 0 R R", "999999999 0 R", "1 0[]R"}) {
            kind(w, -4);
        }
    }

    private static void depth() {
        kind("[".repeat(8) + "]".repeat(8), 6);
        kind("[".repeat(9) + "]".repeat(9), -4);
        kind("<</A".repeat(8) + " 1" + ">>".repeat(8), 7);
        kind("<</A".repeat(9) + " 1" + ">>".repeat(9), -4);
        kind("[<</A".repeat(4) + "(x)" + ">>]".repeat(4), 6);
        kind("[<</A".repeat(4) + "[]" + ">>]".repeat(4), -4);
        kind("[".repeat(3000), -4);
        Desk.due("a STREAM's DICT is 1 deep", new Desk().open(Paper.of("<</Length 0/A" + "[".repeat(7) + "]".repeat(7)
                + ">>stream\n\nendstream")), 0);
        Desk.due("and no deeper than 8", new Desk().open(Paper.of("<</Length 0/A" + "[".repeat(8) + "]".repeat(8)
                + ">>stream\n\nendstream")), 5);
        Desk.due("nor is a trailer", new Desk().open(new Paper().trailer("<</Size 1/A" + "[".repeat(8) + "]".repeat(8) + ">>")
                .last().toString()), 4);
    }

    private static void whiteAround() {
        measured(" \r\n5\r\n ", 3, 5, 0);
        measured("\n[ 1\r2\n3 ]\n", 6, 3, 0);
        measured(" << /A 1 /B [ ] >> ", 7, 2, 0);
        kind("\f5", -4);
        kind("5\t", -4);
        Desk d = Desk.opened(FILE);
        Desk.due("no STREAM", d.put(1, "<</Length 1>>stream\na\nendstream"), -4);
        Desk.due("no endobj", d.put(1, "1 endobj"), -4);
    }
}
