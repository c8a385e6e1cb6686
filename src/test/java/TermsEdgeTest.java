/** The boundaries of WORD, INT, NAME, STRING, ARRAY, DICT and REF, by put and by open alike. */
public final class TermsEdgeTest {
    private static final String FILE = Paper.of("null");
    private static final int NO_OBJECT = -4;

    public static void main(String[] args) {
        white();
        regular();
        delimiters();
        word();
        constants();
        ints();
        numberWithoutSign();
        nameLength();
        stringBytes();
        stringSigns();
        octals();
        pairs();
        stringLength();
        arrayLength();
        dictLength();
        namesAllDifferent();
        refs();
        whiteInRefs();
        whiteBetween();
        deep();
        deepInStreamsAndTrailers();
        Desk.finish();
    }

    /** Its kind, or NO_OBJECT; put and open agree on that. */
    private static Desk is(int kind, String written) {
        Desk d = Desk.opened(FILE);
        if (kind == NO_OBJECT) {
            d.tape(written).staysButTape("put " + written, kind, x -> x.put(1));
            new Desk().tape(Paper.of(written)).staysButTape("open " + written, 5, PaperFile::open);
        } else {
            Desk.due("put " + written, d.put(1, written), 2);
            Desk.due("kind of " + written, d.go(1), kind);
            Desk other = Desk.opened(Paper.of(written));
            Desk.due("kind of " + written + " by open", other.go(1), kind);
            Desk.due("measure of " + written + " by open", other.look(1), d.look(1));
        }
        return d;
    }

    private static void is(int kind, String written, int measure) {
        Desk.due("measure of " + written, is(kind, written).look(1), measure);
    }

    private static boolean isWhite(int b) {
        return b == 32 || b == 10 || b == 13;
    }

    private static boolean isRegular(int b) {
        return b >= 33 && b <= 126 && "()<>[]/".indexOf(b) < 0;
    }

    private static void white() {
        Desk.says("WHITE: bytes 32, 10, 13.");
        for (int b = 0; b < 256; b++) {
            is(isWhite(b) ? 6 : NO_OBJECT, (char) b + "[]");
            is(isWhite(b) ? 6 : NO_OBJECT, "[]" + (char) b);
            is(isWhite(b) ? 8 : NO_OBJECT, "1 0" + (char) b + "R");
            if (b != '/') {
                is(isWhite(b) ? 6 : NO_OBJECT, "[null" + (char) b + "null]");
            }
        }
    }

    private static void regular() {
        Desk.says("REGULAR: bytes 33 to 126 but these.");
        for (int b = 0; b < 256; b++) {
            if (isRegular(b)) {
                is(4, "/A" + (char) b, 2);
                is(4, "/" + (char) b, 1);
            } else {
                is(isWhite(b) ? 4 : NO_OBJECT, "/A" + (char) b);
                is(NO_OBJECT, "/" + (char) b);
            }
        }
    }

    private static void delimiters() {
        Desk.says("DELIMITERS: ( ) < > [ ] /.");
        is(6, "[/A(x)]", 2);
        is(6, "[(x)/A]", 2);
        is(6, "[/A<00>/B]", 3);
        is(6, "[/A[]/B]", 3);
        is(6, "[/A/B]", 2);
        is(7, "<</A/B>>", 1);
        is(6, "[7(x)7<00>7[]7/A]", 8);
        is(6, "[true(x)null[]false/A]", 6);
    }

    private static void word() {
        Desk.says("A WORD: regular bytes, one at least, as many as there are.");
        is(NO_OBJECT, "/");
        is(NO_OBJECT, "[/ A]");
        is(NO_OBJECT, "<</ 1>>");
        is(4, "/A", 1);
        is(4, "/AB", 2);
        is(NO_OBJECT, "");
        is(NO_OBJECT, " ");
        is(NO_OBJECT, "1 0 RR");
        is(NO_OBJECT, "1 0 R1");
    }

    private static void constants() {
        Desk.says("OBJECT: the WORDS null, true, false");
        String[] words = {"null", "true", "false"};
        for (int kind = 0; kind < 3; kind++) {
            String w = words[kind];
            is(kind, w, 0);
            is(NO_OBJECT, w.substring(0, w.length() - 1));
            is(NO_OBJECT, w + "!");
            is(NO_OBJECT, w + w);
            is(NO_OBJECT, w.toUpperCase());
            is(NO_OBJECT, w.substring(1));
        }
    }

    private static void ints() {
        Desk.says("An INT: a WORD of 1 to 9 digits, with a - before or not.");
        for (int digits = 1; digits <= 9; digits++) {
            int value = Integer.parseInt("9".repeat(digits));
            is(3, "9".repeat(digits), value);
            is(3, "-" + "9".repeat(digits), -value);
            is(3, "0".repeat(digits - 1) + "7", 7);
        }
        is(3, "-0", 0);
        is(3, "-000000000", 0);
        for (String w : new String[] {"-", "9999999999", "-9999999999", "0000000000", "-0000000007", "2147483648", "4294967296", "--1", "1-", "+1",
            "- 1", "1a", "a1", "1.", "1/", ":", "1:"}) {
            is(NO_OBJECT, w);
        }
    }

    private static void numberWithoutSign() {
        Desk.says("A number without a sign: an INT without -.");
        is(8, "0 0 R");
        is(NO_OBJECT, "-0 0 R");
        is(NO_OBJECT, "0 -0 R");
        is(6, "[-1 2 3 R]", 2);
        is(NO_OBJECT, "[1 -2 3 -4 R]");
    }

    private static void nameLength() {
        Desk.says("NAME: / and a WORD of at most 20 bytes");
        for (int size : new int[] {1, 2, 19, 20}) {
            is(4, "/" + "n".repeat(size), size);
            is(7, "<</" + "n".repeat(size) + " 1>>", 1);
            is(7, "<</A/" + "n".repeat(size) + ">>", 1);
        }
        for (int size : new int[] {0, 21, 22, 40}) {
            is(NO_OBJECT, "/" + "n".repeat(size));
            is(NO_OBJECT, "<</" + "n".repeat(size) + " 1>>");
            is(NO_OBJECT, "<</A/" + "n".repeat(size) + ">>");
        }
    }

    private static void string(String written, String bytes) {
        is(5, written, bytes.length());
        Desk d = Desk.opened(FILE);
        d.put(1, written);
        d.go(1);
        Desk.due("bytes of " + written, d.bytes(0), bytes.length());
        Desk.due("OUT of " + written, d.out(), bytes);
    }

    private static void stringBytes() {
        Desk.says("STRING: (, bytes but ( ) and \\, and )");
        string("()", "");
        for (int b = 0; b < 256; b++) {
            String one = String.valueOf((char) b);
            if (b == '(' || b == ')' || b == '\\') {
                is(NO_OBJECT, "(" + one + ")");
                is(NO_OBJECT, "(a" + one + "a)");
            } else {
                string("(" + one + ")", one);
                string("(" + one + "a" + one + ")", one + "a" + one);
            }
        }
        is(NO_OBJECT, "(");
        is(NO_OBJECT, "(a");
        is(NO_OBJECT, ")");
    }

    private static void stringSigns() {
        Desk.says("where \\ and one of ( ) \\ mean that byte");
        for (int b = 0; b < 256; b++) {
            String one = String.valueOf((char) b);
            if (b == '(' || b == ')' || b == '\\') {
                string("(\\" + one + ")", one);
                string("(a\\" + one + "a)", "a" + one + "a");
            } else {
                is(NO_OBJECT, "(\\" + one + ")");
            }
        }
        is(NO_OBJECT, "(\\)");
        is(NO_OBJECT, "(\\");
    }

    private static void octals() {
        Desk.says("\\ and three digits 0 to 7, at most 377, the byte of this number of base 8");
        for (int b = 0; b < 256; b++) {
            string(String.format("(\\%03o)", b), String.valueOf((char) b));
        }
        string("(\\0007)", "\0" + "7");
        string("(\\3777)", "\u00ff7");
        string("(\\3770)", "\u00ff0");
        for (String w : new String[] {"\\400", "\\777", "\\477", "\\500", "\\378", "\\387", "\\008", "\\080", "\\800", "\\0/0", "\\00:", "\\1", "\\12",
            "\\12 ", "\\ 12", "\\-12", "\\1\\2"}) {
            is(NO_OBJECT, "(" + w + ")");
        }
        is(NO_OBJECT, "(\\37");
        is(NO_OBJECT, "(\\377");
    }

    private static void pairs() {
        Desk.says("or <, pairs of digits of base 16 (0 to 9, a to f, A to F; no white between), >");
        string("<>", "");
        for (int b = 0; b < 256; b++) {
            char c = (char) b;
            int digit = "0123456789abcdef".indexOf(Character.toLowerCase(c));
            if (digit >= 0 && b < 128) {
                string("<" + c + "1>", String.valueOf((char) (16 * digit + 1)));
                string("<1" + c + ">", String.valueOf((char) (16 + digit)));
                is(NO_OBJECT, "<" + c + ">");
            } else if (b != '<') {
                is(NO_OBJECT, "<" + c + "1>");
                is(NO_OBJECT, "<1" + c + ">");
                is(NO_OBJECT, "<11" + c + "11>");
            }
        }
        for (String w : new String[] {"<", "<1", "<11", "<1>", "<111>", "< 11>", "<11 >", "<1 1>", "<11\n11>", "<11\r11>", "<<11>", "<11>>"}) {
            is(NO_OBJECT, w);
        }
    }

    private static void stringLength() {
        Desk.says("at most 100 bytes");
        for (int size : new int[] {0, 1, 99, 100}) {
            is(5, "(" + "a".repeat(size) + ")", size);
            is(5, "(" + "\\)".repeat(size) + ")", size);
            is(5, "(" + "\\101".repeat(size) + ")", size);
            is(5, "<" + "4a".repeat(size) + ">", size);
        }
        for (int size : new int[] {101, 102, 200}) {
            is(NO_OBJECT, "(" + "a".repeat(size) + ")");
            is(NO_OBJECT, "(" + "\\)".repeat(size) + ")");
            is(NO_OBJECT, "(" + "\\101".repeat(size) + ")");
            is(NO_OBJECT, "<" + "4a".repeat(size) + ">");
        }
        string("(" + "b".repeat(99) + "\\377)", "b".repeat(99) + "\u00ff");
    }

    private static void arrayLength() {
        Desk.says("ARRAY: [ OBJECTS ], at most 60");
        for (int size : new int[] {0, 1, 59, 60}) {
            is(6, "[" + "1 ".repeat(size) + "]", size);
            is(6, "[" + "/A".repeat(size) + "]", size);
            is(6, "[" + "[]".repeat(size) + "]", size);
            is(6, "[ " + "1 0 R ".repeat(size) + "]", size);
        }
        for (int size : new int[] {61, 62, 120}) {
            is(NO_OBJECT, "[" + "1 ".repeat(size) + "]");
            is(NO_OBJECT, "[" + "/A".repeat(size) + "]");
            is(NO_OBJECT, "[" + "[]".repeat(size) + "]");
            is(NO_OBJECT, "[[" + "1 ".repeat(size) + "]]");
        }
        is(6, "[" + ("[" + "1 ".repeat(60) + "]").repeat(2) + "]", 2);
        is(NO_OBJECT, "[");
        is(NO_OBJECT, "]");
        is(NO_OBJECT, "[1");
        is(NO_OBJECT, "[]]");
    }

    static String named(int many, String value) {
        StringBuilder pairs = new StringBuilder();
        for (int k = 0; k < many; k++) {
            pairs.append("/N").append(k).append(value);
        }
        return pairs.toString();
    }

    private static void dictLength() {
        Desk.says("DICT: << { NAME OBJECT } >>, at most 30");
        for (int size : new int[] {0, 1, 29, 30}) {
            is(7, "<<" + named(size, " 1") + ">>", size);
            is(7, "<<" + named(size, "[1]") + ">>", size);
            is(7, "<< " + named(size, "/V ") + ">>", size);
        }
        for (int size : new int[] {31, 32, 60}) {
            is(NO_OBJECT, "<<" + named(size, " 1") + ">>");
            is(NO_OBJECT, "<<" + named(size, "[1]") + ">>");
            is(NO_OBJECT, "[<<" + named(size, "/V ") + ">>]");
        }
        is(7, "<</A<<" + named(30, " 1") + ">>/B<<" + named(30, " 1") + ">>>>", 2);
        for (String w : new String[] {"<<", "<<>", "<</A>>", "<</A 1", "<</A 1>", "<</A 1> >", "<<1>>", "<<1 1>>", "<</A 1 1>>", "<<>>>"}) {
            is(NO_OBJECT, w);
        }
    }

    private static void namesAllDifferent() {
        Desk.says("names all different");
        is(7, "<</A 1/B 1>>", 2);
        is(NO_OBJECT, "<</A 1/A 1>>");
        is(NO_OBJECT, "<</A 1/B 1/A 2>>");
        is(NO_OBJECT, "<</A 1/B 1/B 2>>");
        is(NO_OBJECT, "<<" + named(29, " 1") + "/N0 1>>");
        is(NO_OBJECT, "<<" + named(29, " 1") + "/N28 1>>");
        is(NO_OBJECT, "<</A[1 2[3]]/B<</C 1>>/A()>>");
        is(7, "<</A 1/AA 1/a 1/AAA 1>>", 4);
        is(7, "<</12345678901234567890 1/1234567890123456789 1/12345678901234567891 1>>", 3);
        is(NO_OBJECT, "<</12345678901234567890 1/12345678901234567890 1>>");
        is(7, "<</A<</A<</A 1>>>>>>", 1);
        is(7, "<</A/A/B/A/C/B>>", 3);
        is(NO_OBJECT, "[<</A 1/A 1>>]");
    }

    private static void refs() {
        Desk.says("REF: two numbers without a sign, below 300 and 65536, and the WORD R");
        for (int number : new int[] {0, 1, 298, 299}) {
            for (int generation : new int[] {0, 1, 65534, 65535}) {
                Desk d = is(8, number + " " + generation + " R");
                Desk.due("number", d.look(1), number);
                Desk.due("generation", d.look(2), generation);
            }
        }
        for (int number : new int[] {300, 301, 999999999}) {
            is(NO_OBJECT, number + " 0 R");
            is(NO_OBJECT, "[" + number + " 0 R]");
        }
        for (int generation : new int[] {65536, 65537, 99999, 999999999}) {
            is(NO_OBJECT, "0 " + generation + " R");
            is(NO_OBJECT, "[0 " + generation + " R]");
        }
        is(8, "000000299 000065535 R", 299);
        is(NO_OBJECT, "0000000299 0 R");
        is(NO_OBJECT, "0 0000065535 R");
        for (String w : new String[] {"0 R", "R", "0 0", "0 0 r", "0 0 R R", "0 0 0 R", "0 0 Rs"}) {
            is(NO_OBJECT, w);
        }
        is(6, "[0 0 0 R]", 2);
        is(6, "[300 0 0 R]", 2);
        is(6, "[65536 299 65535 R]", 2);
    }

    private static void whiteInRefs() {
        Desk.says("(with white between)");
        is(8, "1\r\n 0 \r\nR");
        is(NO_OBJECT, "1 0R");
        is(NO_OBJECT, "10R");
        is(NO_OBJECT, "1/0 R");
        is(NO_OBJECT, "1[]0 R");
        is(6, "[1 0 R/A]", 2);
        is(6, "[1 0 R(x)1 0 R]", 3);
    }

    private static void whiteBetween() {
        Desk.says("White may stand between all these.");
        for (String w : new String[] {"", " ", "\n", "\r", "\r\n", "  \n\r "}) {
            is(6, w + "[" + w + "(a)" + w + "[" + w + "]" + w + "/B" + w + "<00>" + w + "<<" + w + ">>" + w + "]" + w, 5);
            is(7, w + "<<" + w + "/A" + w + "[" + w + "]" + w + "/B" + w + "(c)" + w + "/D" + w + "<<" + w + "/E" + w + "/F" + w + ">>" + w + ">>" + w, 3);
        }
        for (String w : new String[] {"\t", "\f", "\0", "\u0085", "\u00a0", "%"}) {
            is(NO_OBJECT, "[" + w + "]");
            is(NO_OBJECT, "[[]" + w + "]");
            is(NO_OBJECT, "<<" + w + ">>");
            is(w.equals("%") ? 7 : NO_OBJECT, "<</A" + w + "[]>>");
            is(NO_OBJECT, "<</A[]" + w + ">>");
        }
        for (String split : new String[] {"< <>>", "<<> >", "<</A 1> >", "< </A 1>>", "/ A", "nu ll", "- 1", "1 0 R s", "< 00>", "<0 0>"}) {
            is(NO_OBJECT, split);
        }
        is(5, "( )", 1);
        is(5, "(\r\n)", 2);
    }

    private static void deep() {
        Desk.says("Arrays and dicts lie in one another at most 8 deep (one that lies in none is 1 deep).");
        for (int deep = 1; deep <= 10; deep++) {
            int array = deep <= 8 ? 6 : NO_OBJECT;
            int dict = deep <= 8 ? 7 : NO_OBJECT;
            is(array, "[".repeat(deep) + "]".repeat(deep));
            is(array, "[".repeat(deep) + "1" + "]".repeat(deep));
            is(deep == 1 ? dict : array, "[".repeat(deep - 1) + "<<>>" + "]".repeat(deep - 1));
            is(dict, "<</A".repeat(deep) + " 1" + ">>".repeat(deep));
            is(dict, "<</A".repeat(deep - 1) + "<<>>" + ">>".repeat(deep - 1));
            is(array, "[1 ".repeat(deep) + "(x)" + "]".repeat(deep));
        }
        is(6, "[<</A".repeat(4) + " 1" + ">>]".repeat(4));
        is(NO_OBJECT, "[<</A".repeat(4) + "[]" + ">>]".repeat(4));
        is(NO_OBJECT, "[<</A".repeat(4) + "<<>>" + ">>]".repeat(4));
        is(7, "<</A[".repeat(4) + "]>>".repeat(4));
        is(6, "[" + "[[[[[[[]]]]]]]".repeat(3) + "]", 3);
    }

    private static void deepInStreamsAndTrailers() {
        for (int deep = 6; deep <= 9; deep++) {
            String in = "/A" + "[".repeat(deep - 1) + "]".repeat(deep - 1);
            Desk stream = new Desk().tape(Paper.of(Paper.stream(in, "")));
            Desk trailer = new Desk().tape(new Paper().trailer("<</Size 1" + in + ">>").last().toString());
            if (deep <= 8) {
                Desk.due("a STREAM's DICT " + deep + " deep", stream.call(PaperFile::open), 0);
                Desk.due("a trailer " + deep + " deep", trailer.call(PaperFile::open), 0);
            } else {
                stream.staysButTape("a STREAM's DICT " + deep + " deep", 5, PaperFile::open);
                trailer.staysButTape("a trailer " + deep + " deep", 4, PaperFile::open);
            }
        }
    }
}
