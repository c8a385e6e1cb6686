import java.util.function.ToIntFunction;

/** "A call that answers below 0 changes nothing but the TAPE": each call, each such answer. */
public final class StaysTest {
    private static final int REFUSED = -1;
    private static final int NONE = -2;
    private static final int FULL = -3;
    private static final int BROKEN = -4;

    public static void main(String[] args) {
        Desk.says("A call that answers below 0 changes nothing but the TAPE.");
        newObject();
        tape();
        points();
        reads();
        changes();
        full();
        saves();
        pages();
        counts();
        faults();
        Desk.finish();
    }

    /** A desk with a file, changes, OUT and a point: part n, or the k-th item in it. */
    private static Desk at(int n, int k) {
        Desk d = FileEdgeTest.busy();
        d.go(n);
        if (k >= 0) {
            d.item(k);
        }
        return d;
    }

    /** The answer with a file, changes, OUT, a TAPE and this point. */
    private static void stays(int n, int k, String what, int want, ToIntFunction<PaperFile> call) {
        at(n, k).tape("what is on the TAPE").stays(what, want, call);
    }

    private static void pointless(String what, int want, ToIntFunction<PaperFile> call) {
        Desk d = FileEdgeTest.busy();
        d.put(11, "null");
        d.tape("what is on the TAPE").stays(what + " without a point", want, call);
        new Desk().tape("what is on the TAPE").stays(what + " without a file", want, call);
    }

    private static void newObject() {
        Desk d = new Desk().tape("1");
        d.stays("go", NONE, x -> x.go(0));
        d.stays("trailer", NONE, PaperFile::trailer);
        d.stays("free", NONE, x -> x.free(0));
        d.stays("save", NONE, PaperFile::save);
        d.stays("pages", NONE, PaperFile::pages);
        d.stays("page", NONE, x -> x.page(0));
        d.stays("state", NONE, x -> x.state(0, 0));
        d.stays("octet", NONE, x -> x.octet(0));
        d.staysButTape("put", NONE, x -> x.put(0));
        d.tape("1").staysButTape("pour", NONE, x -> x.pour(0));
        d.tape("1").staysButTape("find", NONE, PaperFile::find);
        Desk.due("a file then", d.open(Paper.of("1")), 0);
    }

    private static void tape() {
        at(9, 0).tape("t".repeat(3981)).stays("feed", FULL, x -> x.feed(1, 2, 3, 4, 5));
        at(9, 0).tape("t".repeat(4000)).stays("feed", FULL, x -> x.feed(1, 2, 3, 4, 5));
        stays(9, 0, "end", REFUSED, x -> x.end(20));
        stays(9, 0, "end", REFUSED, x -> x.end(-1));
    }

    private static void points() {
        stays(9, 0, "go to a free one", NONE, x -> x.go(0));
        stays(9, 0, "go to a freed one", NONE, x -> x.go(8));
        stays(9, 0, "go to SIZE", NONE, x -> x.go(11));
        stays(9, -1, "item behind the last", NONE, x -> x.item(2));
        stays(9, -1, "item before the first", NONE, x -> x.item(-1));
        stays(3, -1, "name behind the last", NONE, x -> x.item(4));
        stays(9, 0, "item of a STRING", NONE, x -> x.item(0));
        pointless("item", NONE, x -> x.item(0));
        at(3, -1).tape("Typ").staysButTape("find what is not there", NONE, PaperFile::find);
        at(9, 0).tape("Type").staysButTape("find in a STRING", NONE, PaperFile::find);
        stays(9, 0, "follow a STRING", NONE, PaperFile::follow);
        Desk d = at(9, -1);
        d.put(9, "[8 0 R 8 1 R 7 1 R]");
        for (int k = 0; k < 3; k++) {
            d.go(9);
            d.item(k);
            d.stays("follow to nothing", NONE, PaperFile::follow);
        }
        pointless("follow", NONE, PaperFile::follow);
    }

    private static void reads() {
        stays(9, 0, "look", REFUSED, x -> x.look(3));
        stays(9, 0, "look", REFUSED, x -> x.look(-1));
        pointless("look", NONE, x -> x.look(0));
        pointless("look", REFUSED, x -> x.look(3));
        stays(9, -1, "bytes of an ARRAY", NONE, x -> x.bytes(0));
        stays(3, -1, "bytes of a name behind the last", NONE, x -> x.bytes(4));
        stays(3, -1, "bytes of a name before the first", NONE, x -> x.bytes(-1));
        stays(6, -1, "bytes of a STREAM's name behind the last", NONE, x -> x.bytes(2));
        pointless("bytes", NONE, x -> x.bytes(0));
        stays(9, 0, "decode", NONE, PaperFile::decode);
        pointless("decode", NONE, PaperFile::decode);
        Desk broken = Desk.opened(Paper.of(Paper.stream("/Filter/Hex", "414"), "(x)"));
        broken.go(2);
        broken.bytes(0);
        broken.put(3, "1");
        broken.go(1);
        broken.tape("TAPE").stays("decode", BROKEN, PaperFile::decode);
        stays(9, 0, "octet", NONE, x -> x.octet(-2));
        stays(9, 0, "octet", NONE, x -> x.octet(1));
    }

    private static void changes() {
        for (int n : new int[] {-1, 12, 300}) {
            at(9, 0).tape("1").staysButTape("put " + n, REFUSED, x -> x.put(n));
            at(9, 0).tape("1").staysButTape("pour " + n, REFUSED, x -> x.pour(n));
        }
        for (int n : new int[] {0, 3, 8, 9, 10, 11}) {
            at(9, 0).tape("[1 2 (x)").staysButTape("put " + n, BROKEN, x -> x.put(n));
            at(9, 0).tape(ChangeEdgeTest.array(901)).staysButTape("put " + n, FULL, x -> x.put(n));
        }
        stays(9, 0, "free a free one", NONE, x -> x.free(0));
        stays(9, 0, "free a freed one", NONE, x -> x.free(8));
        stays(9, 0, "free SIZE", NONE, x -> x.free(11));
        stays(9, 0, "free -1", NONE, x -> x.free(-1));
    }

    private static void full() {
        Desk parts = at(9, 0);
        int left = 900 - parts.count(5);
        parts.put(11, ChangeEdgeTest.array(left - 1));
        parts.go(9);
        parts.item(0);
        for (int n : new int[] {0, 8, 12}) {
            parts.tape("(x)[]").staysButTape("put " + n, BROKEN, x -> x.put(n));
            parts.tape("[1]").staysButTape("put " + n, FULL, x -> x.put(n));
            parts.tape("x").staysButTape("pour " + n, FULL, x -> x.pour(n));
        }
        Desk bytes = at(9, 0);
        for (int n : new int[] {0, 3, 8, 9, 11}) {
            Desk d = at(9, 0).tape("p".repeat(3995));
            d.staysButTape("pour " + n, FULL, x -> x.pour(n));
        }
        Desk.due("as much as there is room for", bytes.pour(11, "p".repeat(3994)), 12);
    }

    private static void saves() {
        Desk d = Desk.opened(Paper.of("(x)", Paper.stream("", "b".repeat(1900))));
        d.go(1);
        d.bytes(0);
        d.pour(3, "p".repeat(4000));
        d.go(2);
        d.tape("TAPE").stays("save", FULL, PaperFile::save);
    }

    private static void pages() {
        Desk d = at(9, 0);
        d.free(3);
        d.go(9);
        d.tape("TAPE").stays("pages", BROKEN, PaperFile::pages);
        d.stays("page", NONE, x -> x.page(0));
        stays(9, 0, "page behind the last", NONE, x -> x.page(2));
        stays(9, 0, "page before the first", NONE, x -> x.page(-1));
    }

    private static void counts() {
        stays(9, 0, "count", REFUSED, x -> x.count(6));
        stays(9, 0, "count", REFUSED, x -> x.count(-1));
        stays(9, 0, "state", REFUSED, x -> x.state(1, 3));
        stays(9, 0, "state", REFUSED, x -> x.state(1, -1));
        stays(9, 0, "state", NONE, x -> x.state(11, 0));
        stays(9, 0, "state", NONE, x -> x.state(-1, 0));
    }

    private static void faults() {
        String[] each = FileEdgeTest.oneOfEachFault();
        for (int k = 1; k <= 5; k++) {
            at(9, 0).tape(each[k]).staysButTape("open", k, PaperFile::open);
        }
        String long4000 = Paper.of(Paper.stream("", "a".repeat(3400))).replace("endobj", "endobi");
        at(9, 0).tape(long4000).staysButTape("open of a long text", 5, PaperFile::open);
    }
}
