/** Promises 1 to 3: a new object, feed, end. */
public final class TapeTest {
    public static void main(String[] args) {
        newObject();
        feedBytes();
        feedUpToTheLimit();
        cutTape();
        readersEmptyTheTape();
        Desk.finish();
    }

    private static void newObject() {
        Desk d = new Desk();
        for (int what = 0; what <= 5; what++) {
            Desk.due("count of a new object", d.count(what), 0);
        }
        Desk.due("go", d.go(0), -2);
        Desk.due("trailer", d.file.trailer(), -2);
        Desk.due("look", d.look(0), -2);
        Desk.due("item", d.item(0), -2);
        Desk.due("find", d.find("Size"), -2);
        Desk.due("follow", d.file.follow(), -2);
        Desk.due("bytes", d.bytes(0), -2);
        Desk.due("decode", d.decode(), -2);
        Desk.due("octet(-1)", d.file.octet(-1), 0);
        Desk.due("octet(0)", d.file.octet(0), -2);
        Desk.due("put", d.put(0, "1"), -2);
        Desk.due("pour", d.pour(0, "1"), -2);
        Desk.due("free", d.free(0), -2);
        Desk.due("save", d.save(), -2);
        Desk.due("pages", d.file.pages(), -2);
        Desk.due("page", d.file.page(0), -2);
        Desk.due("state", d.state(0, 0), -2);
        Desk.due("end(0)", d.file.end(0), 0);
        Desk.due("end(1)", d.file.end(1), -1);
    }

    private static void feedBytes() {
        Desk d = Desk.opened(Paper.of("1"));
        Desk.due("feed", d.file.feed(0x00017f80, -1, 0x20304050, 0x80000000, 0x7fffffff), 20);
        Desk.due("pour", d.file.pour(1), 2);
        d.go(1);
        Desk.due("bytes", d.bytes(-1), 20);
        int[] want = {0, 1, 127, 128, 255, 255, 255, 255, 32, 48, 64, 80, 128, 0, 0, 0, 127, 255, 255, 255};
        for (int i = 0; i < 20; i++) {
            Desk.due("octet " + i, d.file.octet(i), want[i]);
        }
    }

    private static void feedUpToTheLimit() {
        PaperFile x = new PaperFile();
        for (int k = 1; k <= 200; k++) {
            Desk.due("feed", x.feed(0, 0, 0, 0, 0), 20 * k);
        }
        Desk.due("one more feed", x.feed(0, 0, 0, 0, 0), -3);
        Desk.due("nothing was added", x.end(4000), 4000);
        Desk.due("cut by one", x.end(3999), 3999);
        Desk.due("feed over the limit", x.feed(0, 0, 0, 0, 0), -3);
        Desk.due("cut to 3981", x.end(3981), 3981);
        Desk.due("feed over the limit by one", x.feed(0, 0, 0, 0, 0), -3);
        Desk.due("cut to 3980", x.end(3980), 3980);
        Desk.due("feed to the limit", x.feed(0, 0, 0, 0, 0), 4000);
    }

    private static void cutTape() {
        PaperFile x = new PaperFile();
        x.feed(0, 0, 0, 0, 0);
        Desk.due("end(-1)", x.end(-1), -1);
        Desk.due("end(21)", x.end(21), -1);
        Desk.due("end(MIN)", x.end(Integer.MIN_VALUE), -1);
        Desk.due("end(MAX)", x.end(Integer.MAX_VALUE), -1);
        Desk.due("end(20)", x.end(20), 20);
        Desk.due("end(7)", x.end(7), 7);
        Desk.due("end(8)", x.end(8), -1);
        Desk.due("feed behind the cut", x.feed(0, 0, 0, 0, 0), 27);
        Desk.due("end(0)", x.end(0), 0);
        Desk.due("feed", x.feed(0, 0, 0, 0, 0), 20);
    }

    private static void readersEmptyTheTape() {
        Desk d = Desk.opened(Paper.of("<</A 1>>"));
        empty(d, "open");
        Desk.due("open with a fault", d.open("abc"), 1);
        empty(d, "open with a fault");
        Desk.due("find without a point", d.find("A"), -2);
        empty(d, "find without a point");
        d.go(1);
        Desk.due("find", d.find("A"), 3);
        empty(d, "find");
        Desk.due("put", d.put(1, "5"), 2);
        empty(d, "put");
        Desk.due("put refused", d.put(7, "5"), -1);
        empty(d, "put refused");
        Desk.due("put broken", d.put(1, "5 5"), -4);
        empty(d, "put broken");
        Desk.due("pour", d.pour(1, "5"), 2);
        empty(d, "pour");
        Desk.due("pour refused", d.pour(-1, "5"), -1);
        empty(d, "pour refused");
        Desk without = new Desk();
        without.put(0, "1");
        empty(without, "put without a file");
        without.pour(0, "1");
        empty(without, "pour without a file");
        d.tape("abc");
        d.go(1);
        d.look(0);
        d.bytes(-1);
        d.save();
        d.file.pages();
        d.free(1);
        Desk.due("the others leave the TAPE", d.file.end(3), 3);
        Desk.due("and no more", d.file.end(4), -1);
    }

    private static void empty(Desk d, String behind) {
        Desk.due("the TAPE behind " + behind, d.file.end(1), -1);
    }
}
