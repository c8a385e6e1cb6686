import java.util.ArrayList;
import java.util.List;

/** Writes texts of files, with the places of objects and tables as they come. */
final class Paper {
    private final StringBuilder text = new StringBuilder("%PDF-1.4\n");
    private final List<String> entries = new ArrayList<>();
    private final List<Integer> numbers = new ArrayList<>();
    private int table = -1;

    static String entry(long place, int generation, char letter) {
        return String.format("%010d %05d %c \n", place, generation, letter);
    }

    Paper raw(String written) {
        text.append(written);
        return this;
    }

    int size() {
        return text.length();
    }

    /** Place of the table that was written last. */
    int table() {
        return table;
    }

    Paper object(int n, int generation, String value) {
        return used(n, generation, text.length())
                .raw(n + " " + generation + " obj\n" + value + "\nendobj\n");
    }

    Paper object(int n, String value) {
        return object(n, 0, value);
    }

    /** An entry n for the coming table, whatever is at the place. */
    Paper used(int n, int generation, long place) {
        numbers.add(n);
        entries.add(entry(place, generation, 'n'));
        return this;
    }

    Paper unused(int n, int generation) {
        numbers.add(n);
        entries.add(entry(0, generation, 'f'));
        return this;
    }

    /** xref and the entries that came since the last one, a section for each row of numbers. */
    Paper sections() {
        table = text.length();
        text.append("xref\n");
        if (numbers.isEmpty()) {
            text.append("0 0\n");
        }
        int behind;
        for (int first = 0; first < numbers.size(); first = behind) {
            behind = first + 1;
            while (behind < numbers.size() && numbers.get(behind) == numbers.get(behind - 1) + 1) {
                behind++;
            }
            text.append(numbers.get(first)).append(' ').append(behind - first).append('\n');
            entries.subList(first, behind).forEach(text::append);
        }
        numbers.clear();
        entries.clear();
        return this;
    }

    Paper trailer(String dict) {
        return sections().raw("trailer\n" + dict + "\n");
    }

    /** A table with Prev, if there is one already. */
    Paper trailer(int size, String more) {
        String prev = table < 0 ? "" : "/Prev " + table;
        return trailer("<</Size " + size + more + prev + ">>");
    }

    Paper last() {
        return last(table);
    }

    Paper last(long place) {
        return raw("startxref\n" + place + "\n%%EOF\n");
    }

    @Override
    public String toString() {
        return text.toString();
    }

    /** The file that ../shared/tests begins with: pages, strings, and streams through all filters. */
    static String sample() {
        return new Paper()
                .unused(0, 0)
                .object(1, "<</Type /Catalog /Pages 2 0 R>>")
                .object(2, "<</Type/Pages/Kids[3 0 R 4 0 R]/N -5>>")
                .object(3, "<</Type /Page /S (a\\(b\\101\\\\) /H <0aFf> /E ()>>")
                .object(4, "<</Type/Pages/Kids[5 0 R]>>")
                .object(5, "<</Type/Page/X[null true false 7 [1 0 R 2 3] <<>>]>>")
                .object(6, "<</Filter [/Hex /Runs]/Length 7 0 R>>\nstream\n02616263fd7a80\nendstream")
                .object(7, "14")
                .object(8, "<</Length 5/Filter/Base85>>stream\n9jq~>\nendstream")
                .trailer("<</Size 9/Root 1 0 R>>")
                .last()
                .toString();
    }

    /** A file whose objects are these values, from number 1 on, without a trailer of pages. */
    static String of(String... values) {
        Paper paper = new Paper().unused(0, 0);
        for (int k = 0; k < values.length; k++) {
            paper.object(k + 1, values[k]);
        }
        return paper.trailer("<</Size " + (values.length + 1) + ">>").last().toString();
    }

    static String stream(String pairs, String bytes) {
        return "<<" + pairs + "/Length " + bytes.length() + ">>stream\n" + bytes + "\nendstream";
    }

    static String times(String piece, int many) {
        return piece.repeat(many);
    }
}
