import java.util.Arrays;
import java.util.function.ToIntFunction;

/**
 * All that can be seen of a PaperFile, as a text. It is asked of other objects that were used
 * alike, as many as are needed so that none of them is used for more than 512 calls.
 */
final class Seen {
    /** Stands where else the number of an object stands. */
    private static final int TRAILER = -1;

    private final Desk desk;
    private final StringBuilder text = new StringBuilder();
    private PaperFile alike;
    private int left;

    private Seen(Desk desk) {
        this.desk = desk;
        fresh();
    }

    /** The file, its changes, the point and OUT. */
    static String allOf(Desk desk) {
        Seen seen = new Seen(desk);
        seen.numbers();
        seen.point();
        seen.objects();
        seen.saved();
        return seen.text.toString();
    }

    /** Nothing, or how many bytes the TAPE has, and which, if there is an object to pour them into. */
    static String tapeOf(Desk desk) {
        Seen seen = new Seen(desk);
        int size = seen.tapeSize();
        if (size > 0) {
            seen.note("TAPE", size);
            seen.poured();
        }
        return seen.text.toString();
    }

    private void fresh() {
        alike = desk.again();
        left = desk.callsLeft();
    }

    private void room(int calls) {
        if (left < calls) {
            fresh();
        }
        if (left < calls) {
            throw new IllegalStateException("too few calls are left to look at all");
        }
    }

    private int ask(ToIntFunction<PaperFile> question) {
        room(1);
        left--;
        return question.applyAsInt(alike);
    }

    private int note(String what, int answer) {
        text.append(what).append(' ').append(answer).append('\n');
        return answer;
    }

    /** Questions that change nothing. */
    private void numbers() {
        for (int k = 0; k < 6; k++) {
            int what = k;
            note("count", ask(x -> x.count(what)));
        }
        int size = ask(x -> x.count(0));
        for (int k = -1; k <= size; k++) {
            int n = k;
            for (int w = 0; w < 3; w++) {
                int what = w;
                note("state " + n, ask(x -> x.state(n, what)));
            }
        }
        int pages = note("pages", ask(PaperFile::pages));
        for (int k = -1; k <= Math.max(0, pages); k++) {
            int page = k;
            note("page", ask(x -> x.page(page)));
        }
        octets();
    }

    private void octets() {
        int size = note("OUT", ask(x -> x.octet(-1)));
        for (int k = 0; k <= size; k++) {
            int i = k;
            note("octet", ask(x -> x.octet(i)));
        }
    }

    private void look() {
        for (int k = 0; k < 3; k++) {
            int what = k;
            note("look", ask(x -> x.look(what)));
        }
    }

    private void point() {
        fresh();
        room(26);
        look();
        if (note("bytes", ask(x -> x.bytes(0))) <= 20) {
            octets();
        }
        fresh();
        room(4);
        note("item", ask(x -> x.item(0)));
        look();
        fresh();
        room(4);
        note("follow", ask(PaperFile::follow));
        look();
    }

    private void objects() {
        int size = ask(x -> x.count(0));
        for (int n = TRAILER; n < size; n++) {
            part(n, new int[0]);
        }
    }

    private void part(int n, int[] path) {
        room(path.length + 5);
        int kind = note("kind", walk(n, path));
        if (kind < 0) {
            return;
        }
        look();
        int names = kind == 9 ? ask(x -> x.look(2)) : kind >= 6 && kind <= 7 ? ask(x -> x.look(1)) : 0;
        if (kind == 4 || kind == 5) {
            name(n, path, 0);
        }
        for (int k = 0; k < names; k++) {
            if (kind != 6) {
                name(n, path, k);
            }
            int[] longer = Arrays.copyOf(path, path.length + 1);
            longer[path.length] = k;
            part(n, longer);
        }
    }

    private void name(int n, int[] path, int k) {
        room(path.length + 4);
        walk(n, path);
        int size = note("bytes", ask(x -> x.bytes(k)));
        if (size > 0) {
            note("first", ask(x -> x.octet(0)));
            note("last", ask(x -> x.octet(size - 1)));
        }
    }

    private int walk(int n, int[] path) {
        int kind = ask(x -> n == TRAILER ? x.trailer() : x.go(n));
        for (int k : path) {
            kind = ask(x -> x.item(k));
        }
        return kind;
    }

    private void saved() {
        fresh();
        int size = note("save", ask(PaperFile::save));
        for (int k = 0; k < size; k++) {
            int i = k;
            if (left == 0) {
                room(2);
                ask(PaperFile::save);
            }
            note("saved", ask(x -> x.octet(i)));
        }
    }

    /** feed tells it, or, where there is no room for twenty bytes more, the first end that is not refused. */
    private int tapeSize() {
        room(22);
        int fed = ask(x -> x.feed(0, 0, 0, 0, 0));
        if (fed >= 0) {
            return fed - 20;
        }
        int size = 4000;
        while (size > 0 && end(size) < 0) {
            size--;
        }
        return size;
    }

    private int end(int n) {
        return ask(x -> x.end(n));
    }

    private void poured() {
        fresh();
        if (pour() < 0) {
            return;
        }
        int size = ask(x -> x.octet(-1));
        for (int k = 0; k < size; k++) {
            int i = k;
            if (left == 0) {
                pour();
            }
            note("fed", ask(x -> x.octet(i)));
        }
    }

    private int pour() {
        room(4);
        if (ask(x -> x.pour(0)) < 0) {
            return -1;
        }
        ask(x -> x.go(0));
        return ask(x -> x.bytes(-1));
    }
}
