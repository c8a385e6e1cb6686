import java.util.Arrays;

/** The boundaries of the TAPE, of OUT at first, of feed and of end: promises 1 to 3. */
public final class TapeEdgeTest {
    private static final int[] FAR = {-1, -2, -20, Integer.MIN_VALUE, Integer.MAX_VALUE};

    public static void main(String[] args) {
        noneAtFirst();
        outNoneAtFirst();
        noFileAtFirst();
        atMost4000();
        emptiedByOpen();
        emptiedByFind();
        emptiedByPut();
        emptiedByPour();
        keptByOthers();
        highestFirst();
        howManyItHas();
        cutToItsFirst();
        whatWasCutIsGone();
        endRefused();
        upTo512Calls();
        Desk.finish();
    }

    private static void noneAtFirst() {
        Desk.says("THE TAPE has bytes, none at first");
        Desk d = new Desk();
        Desk.due("end(0)", d.end(0), 0);
        d.stays("end(1)", -1, x -> x.end(1));
        Desk.due("the first feed", d.call(x -> x.feed(1, 2, 3, 4, 5)), 20);
    }

    private static void outNoneAtFirst() {
        Desk.says("OUT has bytes, none at first");
        for (Desk d : new Desk[] {new Desk(), Desk.opened(Paper.sample())}) {
            d.stays("octet(-1)", 0, x -> x.octet(-1));
            d.stays("octet(0)", -2, x -> x.octet(0));
        }
    }

    private static void noFileAtFirst() {
        Desk.says("`PaperFile()`: No file.");
        Desk d = new Desk();
        d.stays("go(0)", -2, x -> x.go(0));
        d.stays("trailer()", -2, PaperFile::trailer);
        d.stays("look(0)", -2, x -> x.look(0));
        d.stays("save()", -2, PaperFile::save);
        d.stays("pages()", -2, PaperFile::pages);
        d.stays("page(0)", -2, x -> x.page(0));
        d.stays("free(0)", -2, x -> x.free(0));
        d.stays("state(0, 0)", -2, x -> x.state(0, 0));
        for (int what = 0; what < 6; what++) {
            int k = what;
            d.stays("count " + k, 0, x -> x.count(k));
        }
        d.tape("1").staysButTape("put(0)", -2, x -> x.put(0));
        d.tape("1").staysButTape("pour(0)", -2, x -> x.pour(0));
        d.tape("%PDF").staysButTape("open()", 1, PaperFile::open);
        d.stays("go(0) behind a fault", -2, x -> x.go(0));
    }

    private static void atMost4000() {
        Desk.says("at most 4000");
        for (int size : new int[] {0, 1, 3960, 3979, 3980}) {
            Desk d = new Desk().tape("a".repeat(size));
            Desk.due("feed to " + size, d.call(x -> x.feed(0, 0, 0, 0, 0)), size + 20);
        }
        Desk.says("FULL if it would have more than 4000");
        for (int size : new int[] {3981, 3982, 3999, 4000}) {
            new Desk().tape("a".repeat(size)).stays("feed to " + size, -3, x -> x.feed(1, 2, 3, 4, 5));
            Desk d = Desk.opened(Paper.of("1", "(x)")).tape("a".repeat(size));
            d.go(2);
            d.bytes(0);
            d.stays("feed to " + size + " with a file", -3, x -> x.feed(1, 2, 3, 4, 5));
            Desk.due("and cut to 3980", d.end(3980), 3980);
            Desk.due("feed", d.call(x -> x.feed(1, 2, 3, 4, 5)), 4000);
        }
    }

    private static void empty(Desk d, String behind) {
        Desk.due("the TAPE behind " + behind, Seen.tapeOf(d), "");
    }

    private static void emptiedByOpen() {
        Desk.says("calls that read it (open, find, put, pour) empty it, whatever they answer");
        Desk d = Desk.opened(Paper.of("1"));
        empty(d, "open");
        String[] faults = FileEdgeTest.oneOfEachFault();
        for (int fault = 1; fault <= 5; fault++) {
            d.tape(faults[fault]).staysButTape("open with fault " + fault, fault, PaperFile::open);
            new Desk().tape(faults[fault]).staysButTape("open of a new object", fault, PaperFile::open);
        }
    }

    private static void emptiedByFind() {
        Desk d = Desk.opened(Paper.of("<</A 1>>"));
        d.tape("A").staysButTape("find without a point", -2, PaperFile::find);
        d.go(1);
        d.tape("B").staysButTape("find of what is not there", -2, PaperFile::find);
        Desk.due("find", d.find("A"), 3);
        empty(d, "find");
        d.tape("A").staysButTape("find in an INT", -2, PaperFile::find);
        new Desk().tape("A").staysButTape("find without a file", -2, PaperFile::find);
    }

    private static void emptiedByPut() {
        Desk d = Desk.opened(Paper.of("1"));
        Desk.due("put", d.put(1, "5"), 2);
        empty(d, "put");
        d.tape("5").staysButTape("put refused", -1, x -> x.put(3));
        d.tape("5 5").staysButTape("put broken", -4, x -> x.put(1));
        d.tape(ChangeEdgeTest.array(901)).staysButTape("put full", -3, x -> x.put(1));
        new Desk().tape("5").staysButTape("put without a file", -2, x -> x.put(0));
    }

    private static void emptiedByPour() {
        Desk d = Desk.opened(Paper.of("1"));
        Desk.due("pour", d.pour(1, "a".repeat(2000)), 2);
        empty(d, "pour");
        d.tape("5").staysButTape("pour refused", -1, x -> x.pour(3));
        d.tape("b".repeat(2001)).staysButTape("pour full", -3, x -> x.pour(2));
        new Desk().tape("5").staysButTape("pour without a file", -2, x -> x.pour(0));
    }

    private static void keptByOthers() {
        Desk d = Desk.opened(Paper.of("[2 0 R]", "(x)", Paper.stream("", "abc"))).tape("of this TAPE");
        String tape = Seen.tapeOf(d);
        d.trailer();
        d.go(1);
        d.item(0);
        d.follow();
        d.look(1);
        d.bytes(0);
        d.go(3);
        d.decode();
        d.octet(0);
        d.save();
        d.pages();
        d.page(0);
        d.count(0);
        d.state(1, 1);
        Desk.due("the TAPE behind calls that do not read it", Seen.tapeOf(d), tape);
        d.free(3);
        Desk.due("the TAPE behind free", d.end(12) + 100 * d.end(13), 12 - 100);
    }

    private static void highestFirst() {
        Desk.says("Twenty bytes, five times four, the highest of each first, come to the TAPE");
        for (int at = 0; at < 20; at++) {
            for (int value : new int[] {1, 127, 128, 255}) {
                int[] five = new int[5];
                five[at / 4] = value << 24 - 8 * (at % 4);
                int[] want = new int[20];
                want[at] = value;
                Desk d = Desk.opened(Paper.of("1"));
                d.call(x -> x.feed(five[0], five[1], five[2], five[3], five[4]));
                Desk.due("byte " + at, Arrays.toString(poured(d)), Arrays.toString(want));
            }
        }
    }

    private static int[] poured(Desk d) {
        d.call(x -> x.pour(1));
        d.go(1);
        int[] bytes = new int[d.bytes(-1)];
        for (int i = 0; i < bytes.length; i++) {
            bytes[i] = d.octet(i);
        }
        return bytes;
    }

    private static void howManyItHas() {
        Desk.says("come to the TAPE: how many it has");
        Desk d = new Desk();
        for (int k = 1; k <= 200; k++) {
            Desk.due("feed " + k, d.call(x -> x.feed(0, 0, 0, 0, 0)), 20 * k);
        }
    }

    private static void cutToItsFirst() {
        Desk.says("The TAPE is cut to its first n bytes: n");
        for (int n : new int[] {0, 1, 6, 7}) {
            Desk d = Desk.opened(Paper.of("1")).tape("abcdefg");
            Desk.due("end " + n, d.end(n), n);
            Desk.due("what is left", new String(poured(d), 0, n), "abcdefg".substring(0, n));
            d = Desk.opened(Paper.of("1")).tape("abcdefg");
            d.end(n);
            d.tape("xyz");
            Desk.due("fed behind the cut", new String(poured(d), 0, n + 3), "abcdefg".substring(0, n) + "xyz");
        }
        for (int n : new int[] {3999, 4000}) {
            Desk.due("end " + n, new Desk().tape("a".repeat(4000)).end(n), n);
        }
    }

    /** Nothing that stood behind the cut, or was on the TAPE before, is read. */
    private static void whatWasCutIsGone() {
        String digits = "123456789";
        for (int n = 1; n < 9; n++) {
            Desk d = Desk.opened(Paper.of("<</AB 1/ABC 2>>")).tape(digits);
            d.end(n);
            Desk.due("put of the first " + n, d.call(x -> x.put(2)), 3);
            d.go(2);
            Desk.due("its value", d.look(1), Integer.parseInt(digits.substring(0, n)));
        }
        String[] texts = {"null", "-5", "/Name", "(x)", "<00>", "[1]", "<</A 1>>", "1 0 R"};
        int[] kinds = {0, 3, 4, 5, 5, 6, 7, 8};
        for (int k = 0; k < texts.length; k++) {
            for (String more : new String[] {"5", " ", "\n", "x", "]", ">", "(", "/", " R", " 0 R", " 5 R"}) {
                Desk d = Desk.opened(Paper.of("1")).tape(texts[k] + more);
                d.end(texts[k].length());
                Desk.due("put of " + texts[k] + " cut from " + more, d.call(x -> x.put(1)), 2);
                Desk.due("its kind", d.go(1), kinds[k]);
            }
        }
        Desk found = Desk.opened(Paper.of("<</A 1/AB 2/ABC 3>>"));
        for (int n = 3; n >= 1; n--) {
            found.go(1);
            found.tape("ABCD").end(n);
            Desk.due("find the first " + n, found.call(PaperFile::find), 3);
            Desk.due("its value", found.look(1), n);
        }
        for (String more : new String[] {"\n", "0", "x", " "}) {
            Desk opened = new Desk().tape(Paper.of("1") + more);
            opened.end(Paper.of("1").length());
            Desk.due("open of a text cut from more", opened.call(PaperFile::open), 0);
            Desk.due("its bytes", opened.count(4), Paper.of("1").length());
        }
        Desk before = Desk.opened(Paper.of("1"));
        before.tape("12]").staysButTape("a put that is broken", -4, x -> x.put(1));
        Desk.due("a shorter one", before.put(1, "1"), 2);
        before.tape("4]]]]]]]]").staysButTape("another", -4, x -> x.put(1));
        Desk.due("then one that is cut", before.tape("56").end(1), 1);
        Desk.due("put", before.call(x -> x.put(1)), 2);
        before.go(1);
        Desk.due("its value", before.look(1), 5);
        Desk.due("nothing", before.put(1, ""), -4);
    }

    private static void endRefused() {
        Desk.says("REFUSED if it has less, or n is below 0");
        for (int size : new int[] {0, 1, 19, 20, 21, 3999, 4000}) {
            Desk d = new Desk().tape("a".repeat(size));
            d.stays("one more than there are", -1, x -> x.end(size + 1));
            for (int n : FAR) {
                d.stays("end " + n, -1, x -> x.end(n));
            }
            Desk.due("as many as there are", d.end(size), size);
        }
        Desk d = Desk.opened(Paper.sample()).tape("abc");
        d.go(2);
        d.bytes(0);
        d.stays("one more with a file", -1, x -> x.end(4));
        d.stays("one below 0 with a file", -1, x -> x.end(-1));
        d.end(2);
        d.stays("what was cut does not come back", -1, x -> x.end(3));
    }

    private static void upTo512Calls() {
        Desk.says("An object is used for at most 512 calls after it has been made");
        String text = Paper.of(Paper.stream("", "a".repeat(3800)));
        String shorter = Paper.of(Paper.stream("", "b".repeat(1700)));
        Desk d = Desk.opened(text);
        Desk.due("a second file", d.open(text), 0);
        Desk.due("a third one", d.open(shorter), 0);
        while (d.callsLeft() > 3) {
            Desk.due("feed", d.call(x -> x.feed(1, 1, 1, 1, 1)) > 0, true);
        }
        Desk.due("pour", d.call(x -> x.pour(1)), 2);
        Desk.due("go", d.go(1), 9);
        Desk.due("the 512th call", d.look(1) % 20, 0);
    }
}
