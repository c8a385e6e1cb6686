/** The boundaries of changes, SIZE, count and state: promises 14 to 16, 20 and 21. */
public final class ChangeEdgeTest {
    private static final int[] FAR = {-1, -2, 300, 301, Integer.MIN_VALUE, Integer.MAX_VALUE};

    public static void main(String[] args) {
        putsAnObject();
        putsOnlyAnObject();
        putGeneration();
        putSize();
        putWithoutFile();
        putRefused();
        putBroken();
        putFull();
        putOrder();
        poursBytes();
        pourRefused();
        pourFullOfParts();
        pourFullOfBytes();
        whatNHadBefore();
        onlyPouredOnesThatAreValues();
        freesOnes();
        freedGeneration();
        freesNone();
        sizeOfTheFile();
        counts();
        countRefused();
        states();
        stateOfNone();
        stateRefused();
        Desk.finish();
    }

    /** An ARRAY of so many parts, itself one of them. */
    static String array(int parts) {
        StringBuilder text = new StringBuilder("[");
        int left = parts - 1;
        while (left > 0) {
            int some = parts <= 61 ? 1 : Math.min(left, 61);
            text.append(some == 1 ? "1 " : "[" + "1 ".repeat(some - 1) + "]");
            left -= some;
        }
        return text.append("]").toString();
    }

    private static Desk three() {
        Desk d = Desk.opened(Paper.of("[1 2]", "(two)", "3"));
        d.go(2);
        d.bytes(0);
        d.go(1);
        d.item(1);
        return d;
    }

    private static void putsAnObject() {
        Desk.says("The TAPE as an OBJECT (white around it or none; no STREAM) becomes the value of object n: n is in use");
        for (String white : new String[] {"", " ", "\n", "\r", " \r\n "}) {
            Desk d = three();
            Desk.due("put", d.put(3, white + "/Put" + white), 4);
            Desk.due("its kind", d.go(3), 4);
            Desk.due("its bytes", d.look(1), 3);
            Desk.due("a free one", d.put(0, white + "[]" + white), 4);
            Desk.due("in use", d.state(0, 0), 1);
        }
    }

    private static void putsOnlyAnObject() {
        three().tape("\t1").staysButTape("a tab before", -4, x -> x.put(1));
        three().tape("1\0").staysButTape("a 0 behind", -4, x -> x.put(1));
        three().tape("<</Length 1>>stream\na\nendstream").staysButTape("a STREAM", -4, x -> x.put(1));
        three().tape("<</Length 1>>\nstream").staysButTape("a STREAM's begin", -4, x -> x.put(1));
        three().tape("1 endobj").staysButTape("an endobj", -4, x -> x.put(1));
        Desk.due("the DICT of a STREAM", three().put(1, "<</Length 1>>"), 4);
        Desk most = three();
        Desk.due("a TAPE of 4000 bytes", most.put(1, " ".repeat(3999) + "1"), 4);
        three().tape(" ".repeat(3999) + "]").staysButTape("a bad TAPE of 4000 bytes", -4, x -> x.put(1));
    }

    private static void putGeneration() {
        Desk.says("with the generation it had, that of its entry f or that it was freed with, 0 without any");
        for (int generation : new int[] {0, 1, 65534, 65535, 65536, 99999}) {
            Desk d = Desk.opened(new Paper().object(1, generation, "1").unused(2, generation).trailer("<</Size 4>>").last().toString());
            d.put(1, "11");
            Desk.due("the generation it had", d.state(1, 1), generation);
            d.put(2, "22");
            Desk.due("that of its entry f", d.state(2, 1), generation);
            d.put(3, "33");
            Desk.due("without an entry", d.state(3, 1), 0);
            d.put(4, "44");
            Desk.due("at SIZE", d.state(4, 1), 0);
            int freed = generation < 65535 ? generation + 1 : generation;
            d.free(1);
            d.put(1, "111");
            Desk.due("that it was freed with", d.state(1, 1), freed);
            d.put(1, "1111");
            Desk.due("the generation it had", d.state(1, 1), freed);
            d.free(2);
            d.pour(2, "222");
            Desk.due("that it was freed with, by pour", d.state(2, 1), freed);
            d.free(4);
            d.put(4, "444");
            Desk.due("1 behind 0", d.state(4, 1), 1);
        }
    }

    private static void putSize() {
        Desk.says("SIZE: that of its latest table, or above the greatest number that was put.");
        Desk d = Desk.opened(Paper.of("1", "2"));
        Desk.due("SIZE", d.count(0), 3);
        Desk.due("put below", d.put(2, "1"), 3);
        Desk.due("put 0", d.put(0, "1"), 3);
        Desk.due("put at SIZE", d.put(3, "1"), 4);
        Desk.due("pour at SIZE", d.pour(4, "1"), 5);
        Desk.due("put below", d.put(3, "1"), 5);
        d.free(4);
        d.free(3);
        Desk.due("SIZE behind free", d.count(0), 5);
        Desk.due("put a freed one", d.put(3, "1"), 5);
        Desk.due("put at SIZE", d.put(5, "1"), 6);
    }

    private static void putWithoutFile() {
        Desk.says("NONE without a file");
        for (int n : new int[] {0, 1, 299, -1, 300}) {
            new Desk().tape("1").staysButTape("put " + n, -2, x -> x.put(n));
            new Desk().tape("]").staysButTape("put " + n, -2, x -> x.put(n));
            new Desk().tape("1").staysButTape("pour " + n, -2, x -> x.pour(n));
        }
    }

    private static void putRefused() {
        Desk.says("REFUSED if n is not 0 to SIZE, or is above 299");
        for (int n : FAR) {
            three().tape("1").staysButTape("put " + n, -1, x -> x.put(n));
        }
        Desk.due("put 0", three().put(0, "1"), 4);
        Desk.due("put SIZE - 1", three().put(3, "1"), 4);
        Desk.due("put SIZE", three().put(4, "1"), 5);
        three().tape("1").staysButTape("put SIZE + 1", -1, x -> x.put(5));
        for (int size : new int[] {298, 299, 300}) {
            String text = new Paper().object(1, "1").trailer("<</Size " + size + ">>").last().toString();
            Desk below = Desk.opened(text);
            Desk.due("put SIZE - 1 of " + size, below.put(size - 1, "1"), size);
            Desk at = Desk.opened(text);
            if (size < 300) {
                Desk.due("put SIZE of " + size, at.put(size, "1"), size + 1);
            } else {
                at.tape("1").staysButTape("put 300 of 300", -1, x -> x.put(300));
            }
            Desk above = Desk.opened(text);
            above.tape("1").staysButTape("put SIZE + 1 of " + size, -1, x -> x.put(size + 1));
        }
        Desk grown = Desk.opened(new Paper().trailer("<</Size 299>>").last().toString());
        Desk.due("put 299", grown.put(299, "1"), 300);
        grown.tape("1").staysButTape("put 300 then", -1, x -> x.put(300));
    }

    private static void putBroken() {
        Desk.says("BROKEN if it is no OBJECT");
        for (String bad : new String[] {"", " ", "1 1", "]", "[", "/", "nul", "(", "<", "<<", "1 0 R R", "[1]]"}) {
            three().tape(bad).staysButTape("put " + bad, -4, x -> x.put(1));
            three().tape(bad).staysButTape("put at SIZE " + bad, -4, x -> x.put(4));
            three().tape(bad).staysButTape("put a free one " + bad, -4, x -> x.put(0));
        }
    }

    private static void putFull() {
        Desk.says("FULL if all objects together had more than 900 parts");
        for (int parts : new int[] {898, 899, 900}) {
            Desk d = three();
            Desk.due("put of " + parts + " in all", d.put(1, array(parts - 2)), 4);
            Desk.due("parts", d.count(5), parts);
        }
        for (int parts : new int[] {901, 902, 1200}) {
            three().tape(array(parts - 2)).staysButTape("put of " + parts + " in all", -3, x -> x.put(1));
            three().tape(array(parts - 5)).staysButTape("put of " + parts + " in all at SIZE", -3, x -> x.put(4));
            three().tape(array(parts - 5)).staysButTape("put of " + parts + " in all to a free one", -3, x -> x.put(0));
        }
        Desk full = Desk.opened(Paper.of(array(899), "1"));
        full.tape("1").staysButTape("one part more", -3, x -> x.put(3));
        full.tape("[1]").staysButTape("one part more in place of one", -3, x -> x.put(2));
        Desk.due("one part in place of one", full.put(2, "2"), 3);
        Desk.due("as many in place of the others", full.put(1, array(899)), 3);
        Desk.due("one freed", full.free(2), 1);
        Desk.due("and put", full.put(3, "1"), 4);
        Desk.due("parts", full.count(5), 900);
    }

    private static void putOrder() {
        Desk full = Desk.opened(Paper.of(array(900)));
        full.tape("]").staysButTape("REFUSED before BROKEN", -1, x -> x.put(3));
        full.tape("1").staysButTape("REFUSED before FULL", -1, x -> x.put(3));
        full.tape("1 1").staysButTape("BROKEN before FULL", -4, x -> x.put(2));
        full.tape(array(950) + "]").staysButTape("BROKEN with too many parts", -4, x -> x.put(1));
        full.tape("1").staysButTape("FULL", -3, x -> x.put(2));
    }

    private static void poursBytes() {
        Desk.says("The TAPE becomes the bytes of a STREAM (its DICT: Length alone) that is the value of object n: as put");
        for (int size : new int[] {0, 1, 2, 3999, 4000}) {
            Desk d = three();
            Desk.due("pour " + size, d.pour(4, "p".repeat(size)), 5);
            Desk.due("its kind", d.go(4), 9);
            Desk.due("its bytes", d.look(1), size);
            Desk.due("its names", d.look(2), 1);
            Desk.due("its Length", d.item(0), 3);
            Desk.due("its Length", d.look(1), size);
            Desk.due("parts", d.count(5), 7);
            Desk.due("in use", d.state(4, 0), 1);
        }
    }

    private static void pourRefused() {
        for (int n : FAR) {
            three().tape("1").staysButTape("pour " + n, -1, x -> x.pour(n));
        }
        Desk.due("pour 0", three().pour(0, "1"), 4);
        Desk.due("pour SIZE", three().pour(4, "1"), 5);
        three().tape("1").staysButTape("pour SIZE + 1", -1, x -> x.pour(5));
        Desk last = Desk.opened(new Paper().trailer("<</Size 299>>").last().toString());
        last.tape("1").staysButTape("pour 300", -1, x -> x.pour(300));
        Desk.due("pour 299", last.pour(299, "1"), 300);
        Desk.due("pour 299 again", last.pour(299, "2".repeat(4000)), 300);
        last.tape("1").staysButTape("pour 0, full by 299", -3, x -> x.pour(0));
        last.tape("1").staysButTape("pour 300 of 300", -1, x -> x.pour(300));
    }

    private static void pourFullOfParts() {
        for (int parts : new int[] {898, 899, 900}) {
            Desk d = Desk.opened(Paper.of(array(parts)));
            if (parts == 898) {
                Desk.due("two parts more", d.pour(2, "1"), 3);
                Desk.due("parts", d.count(5), 900);
                Desk.due("in its place", d.pour(2, "22"), 3);
                d.tape("3").staysButTape("two more", -3, x -> x.pour(3));
            } else {
                d.tape("1").staysButTape("two parts more than " + parts, -3, x -> x.pour(2));
                d.tape("").staysButTape("of no bytes", -3, x -> x.pour(2));
                Desk.due("in place of all", d.pour(1, "1"), 2);
            }
        }
        Desk one = Desk.opened(Paper.of(array(899), "1"));
        one.tape("1").staysButTape("two parts in place of one", -3, x -> x.pour(2));
        Desk two = Desk.opened(Paper.of(array(898), "[1]"));
        Desk.due("two parts in place of two", two.pour(2, "1"), 3);
    }

    private static void pourFullOfBytes() {
        Desk.says("FULL, too, if the streams poured that are values then had more than 4000 bytes together");
        for (int first : new int[] {0, 1, 2000, 3999, 4000}) {
            Desk d = three();
            d.pour(4, "a".repeat(first));
            if (first > 0) {
                d.tape("b".repeat(4001 - first)).staysButTape("one byte too many behind " + first, -3, x -> x.pour(1));
            }
            Desk.due("4000 bytes", d.pour(1, "b".repeat(4000 - first)), 5);
            d.tape("c").staysButTape("one more", -3, x -> x.pour(2));
            Desk.due("none more", d.pour(2, ""), 5);
        }
        Desk many = three();
        for (int n = 0; n < 4; n++) {
            Desk.due("pour 999", many.pour(n, "d".repeat(999)), 4);
        }
        many.tape("eeeee").staysButTape("five more", -3, x -> x.pour(4));
        Desk.due("four more", many.pour(4, "eeee"), 5);
    }

    private static void whatNHadBefore() {
        Desk.says("(what n had before does not count)");
        Desk d = three();
        d.pour(1, "a".repeat(2500));
        d.pour(2, "b".repeat(1500));
        d.tape("c".repeat(2501)).staysButTape("one too many in its place", -3, x -> x.pour(1));
        Desk.due("as many in its place", d.pour(1, "c".repeat(2500)), 4);
        Desk last = three();
        last.pour(1, "a".repeat(1500));
        last.pour(2, "b".repeat(2500));
        Desk.due("one less in its place", last.pour(2, "d".repeat(2499)), 4);
        last.tape("ee").staysButTape("two more", -3, x -> x.pour(3));
        Desk.due("one more", last.pour(3, "e"), 4);
    }

    private static void onlyPouredOnesThatAreValues() {
        Desk d = Desk.opened(Paper.of(Paper.stream("", "f".repeat(1000)), "2", "3"));
        Desk.due("the file's streams are not poured", d.pour(2, "a".repeat(4000)), 4);
        d.tape("b").staysButTape("full", -3, x -> x.pour(3));
        Desk.due("put over", d.put(2, "1"), 4);
        Desk.due("what was put over is no value", d.pour(3, "b".repeat(2000)), 4);
        Desk freed = three();
        freed.pour(1, "a".repeat(4000));
        freed.tape("b").staysButTape("full", -3, x -> x.pour(2));
        freed.free(1);
        Desk.due("a freed one is no value", freed.pour(2, "b".repeat(3000)), 4);
        freed.tape("c".repeat(1001)).staysButTape("one too many", -3, x -> x.pour(1));
        Desk other = three();
        other.pour(1, "a".repeat(3000));
        other.open(Paper.of("1"));
        Desk.due("one of the file before is no value", other.pour(1, "b".repeat(4000)), 2);
        Desk third = three();
        third.pour(1, "a".repeat(1000));
        third.open(Paper.of("1"));
        third.open(Paper.of(Paper.stream("", "f".repeat(1000)), "2"));
        Desk.due("nor is one of the file before that", third.pour(2, "b".repeat(4000)), 3);
        Desk written = three();
        written.pour(1, "a".repeat(2000));
        written.tape("b".repeat(2001)).staysButTape("full", -3, x -> x.pour(2));
        written.put(1, "<</Length 2000>>");
        Desk.due("a DICT is none", written.pour(2, "b".repeat(2001)), 4);
        for (String value : new String[] {"1 65535 R", "(" + "s".repeat(100) + ")", "/" + "n".repeat(20), "999999999"}) {
            Desk put = three();
            put.put(1, value);
            Desk.due("what was put is none", put.pour(2, "b".repeat(4000)), 4);
        }
    }

    private static void freesOnes() {
        Desk.says("Object n is free, its generation 1 more (one of 65535 or above stays): how many are in use");
        Desk d = Desk.opened(new Paper().object(0, "0").object(1, "1").object(299, "299").trailer("<</Size 300>>").last().toString());
        Desk.due("free 299", d.free(299), 2);
        Desk.due("is free", d.state(299, 0), 0);
        Desk.due("free 0", d.free(0), 1);
        Desk.due("free 1", d.free(1), 0);
        Desk.due("SIZE", d.count(0), 300);
        Desk.due("parts", d.count(5), 0);
        Desk.due("changed", d.count(3), 3);
        counted(d, 300, 0, 1, 3, d.count(4), 0);
        Desk.due("put", d.put(1, "1"), 300);
        Desk.due("free again", d.free(1), 0);
        Desk.due("twice more", d.state(1, 1), 2);
    }

    private static void freedGeneration() {
        int[] had = {0, 1, 65533, 65534, 65535, 65536, 99998, 99999};
        int[] then = {1, 2, 65534, 65535, 65535, 65536, 99998, 99999};
        for (int k = 0; k < had.length; k++) {
            Desk d = Desk.opened(new Paper().object(1, had[k], "1").trailer("<</Size 2>>").last().toString());
            Desk.due("free", d.free(1), 0);
            Desk.due("generation behind " + had[k], d.state(1, 1), then[k]);
            d.put(1, "1");
            d.free(1);
            Desk.due("and behind that", d.state(1, 1), then[k] < 65535 ? then[k] + 1 : then[k]);
        }
    }

    private static void freesNone() {
        Desk.says("NONE if it is not in use");
        Desk d = three().tape("the TAPE");
        d.stays("free 0", -2, x -> x.free(0));
        d.stays("free SIZE", -2, x -> x.free(4));
        for (int n : FAR) {
            d.stays("free " + n, -2, x -> x.free(n));
            new Desk().stays("free " + n + " without a file", -2, x -> x.free(n));
        }
        Desk.due("free", d.free(3), 2);
        d.go(1);
        d.stays("free a freed one", -2, x -> x.free(3));
    }

    private static void sizeOfTheFile() {
        Desk.says("what 0: SIZE, 1: objects in use, 2: tables, 3: objects changed, 4: its bytes, 5: parts of all objects");
        for (int size : new int[] {1, 2, 299, 300}) {
            Desk.due("SIZE", Desk.opened(new Paper().trailer("<</Size " + size + ">>").last().toString()).count(0), size);
        }
        String least = new Paper().trailer("<</Size 1>>").last().toString();
        Desk.due("bytes", Desk.opened(least).count(4), least.length());
        int rest = 4000 - least.length();
        String most = new Paper().raw(" ".repeat(rest - 3)).trailer("<</Size 1>>").last().toString();
        Desk.due("its length", most.length(), 4000);
        Desk.due("bytes of the longest", Desk.opened(most).count(4), 4000);
    }

    private static void counts() {
        Desk d = three();
        int size = Paper.of("[1 2]", "(two)", "3").length();
        counted(d, 4, 3, 1, 0, size, 5);
        d.put(1, "[1 2]");
        counted(d, 4, 3, 1, 1, size, 5);
        d.put(1, "[[]]");
        counted(d, 4, 3, 1, 1, size, 4);
        d.put(4, "1");
        counted(d, 5, 4, 1, 2, size, 5);
        d.free(4);
        counted(d, 5, 3, 1, 2, size, 4);
        d.pour(0, "abc");
        counted(d, 5, 4, 1, 3, size, 6);
        d.save();
        counted(d, 5, 4, 1, 3, size, 6);
    }

    private static void counted(Desk d, int... want) {
        for (int what = 0; what < 6; what++) {
            int k = what;
            d.stays("count " + k, want[k], x -> x.count(k));
        }
    }

    private static void countRefused() {
        Desk.says("REFUSED for others, first; 0 without one");
        for (int what : new int[] {-1, 6, -2, 7, Integer.MIN_VALUE, Integer.MAX_VALUE}) {
            three().stays("count " + what, -1, x -> x.count(what));
            new Desk().stays("count " + what + " without a file", -1, x -> x.count(what));
        }
        counted(new Desk(), 0, 0, 0, 0, 0, 0);
    }

    private static void states() {
        Desk.says("what 0: 1 in use, 0 free; 1: its generation (of free ones: what it would get); 2: 1 if it was changed, 0 if not");
        Desk d = Desk.opened(new Paper().object(1, 65535, "1").unused(2, 65535).object(3, 4, "3").trailer("<</Size 5>>").last().toString());
        int[][] before = {{0, 0, 0}, {1, 65535, 0}, {0, 65535, 0}, {1, 4, 0}, {0, 0, 0}};
        stated(d, before);
        d.free(1);
        d.put(2, "1");
        d.free(3);
        d.pour(5, "1");
        int[][] behind = {{0, 0, 0}, {0, 65535, 1}, {1, 65535, 1}, {0, 5, 1}, {0, 0, 0}, {1, 0, 1}};
        stated(d, behind);
    }

    private static void stated(Desk d, int[][] want) {
        for (int n = 0; n < want.length; n++) {
            int k = n;
            for (int w = 0; w < 3; w++) {
                int what = w;
                d.stays("state " + k + " " + what, want[k][what], x -> x.state(k, what));
            }
        }
    }

    private static void stateOfNone() {
        Desk.says("NONE if n is not below SIZE");
        Desk d = three();
        for (int w = 0; w < 3; w++) {
            int what = w;
            Desk.due("below SIZE", d.state(3, what) >= 0, true);
            d.stays("SIZE", -2, x -> x.state(4, what));
            for (int n : FAR) {
                d.stays("state of " + n, -2, x -> x.state(n, what));
            }
            new Desk().stays("without a file", -2, x -> x.state(0, what));
        }
        d.put(4, "1");
        Desk.due("a new one", d.state(4, 0), 1);
        d.stays("SIZE then", -2, x -> x.state(5, 0));
        Desk full = Desk.opened(new Paper().trailer("<</Size 300>>").last().toString());
        Desk.due("299", full.state(299, 0), 0);
        full.stays("300", -2, x -> x.state(300, 0));
    }

    private static void stateRefused() {
        Desk.says("REFUSED for another what, first");
        for (int what : new int[] {-1, 3, -2, 4, Integer.MIN_VALUE, Integer.MAX_VALUE}) {
            three().stays("state 1", -1, x -> x.state(1, what));
            three().stays("state of none", -1, x -> x.state(4, what));
            three().stays("state of -1", -1, x -> x.state(-1, what));
            new Desk().stays("state without a file", -1, x -> x.state(0, what));
        }
    }
}
