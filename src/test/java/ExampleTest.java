import java.io.IOException;
import java.nio.file.Files;
import java.nio.file.Path;

/** The example of README.md: it must run, and answer what is written behind its calls. */
public final class ExampleTest {
    public static void main(String[] args) throws IOException {
        String readme = read("README.md");
        String source = read("src/test/java/ExampleTest.java");
        int from = source.indexOf("// The example begins here.\n");
        int to = source.indexOf("// The example ends here.\n");
        String example = source.substring(source.indexOf('\n', from) + 1, to).stripIndent().strip();
        Desk.due("README.md has the example", readme.contains("```java\n" + example + "\n```\n"), true);
        run();
        Desk.finish();
    }

    private static String read(String name) throws IOException {
        return Files.readString(Path.of(name));
    }

    private static void due(int got, int want) {
        Desk.due("a call of the example", got, want);
    }

    // The example begins here.
    static void tape(PaperFile x, String text) {
        for (int at = 0; at < text.length(); at += 20) {
            int[] five = new int[5];
            for (int k = 0; k < 20; k++) {
                int b = at + k < text.length() ? text.charAt(at + k) : 0;
                five[k / 4] = five[k / 4] << 8 | b;
            }
            x.feed(five[0], five[1], five[2], five[3], five[4]);
        }
        x.end(text.length());
    }

    static void run() {
        PaperFile x = new PaperFile();
        tape(x, "%PDF-1.4\n"
                + "1 0 obj\n<</Title (Paper) /Next 2 0 R>>\nendobj\n"
                + "2 0 obj\n<</Filter /Hex /Length 6>>stream\n616263\nendstream\nendobj\n"
                + "xref\n1 2\n0000000009 00000 n \n0000000055 00000 n \n"
                + "trailer\n<</Size 3>>\nstartxref\n120\n%%EOF\n");
        due(x.open(), 0);       // no fault: the TAPE is THE FILE now, and empty
        due(x.go(1), 7);        // THE POINT is object 1, a DICT
        tape(x, "Next");
        due(x.find(), 8);       // its name Next: a REF
        due(x.follow(), 9);     // which leads to a STREAM
        due(x.decode(), 3);     // OUT is abc, three bytes
        due(x.octet(0), 'a');
        tape(x, "[1 (two)]");
        due(x.put(3), 4);       // object 3 is an ARRAY; SIZE is 4
        due(x.free(2), 2);      // two objects are in use
        due(x.save(), 336);     // OUT is the file with its changes behind it
    }
    // The example ends here.
}
