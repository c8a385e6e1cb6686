import java.lang.reflect.Constructor;
import java.lang.reflect.Field;
import java.lang.reflect.Member;
import java.lang.reflect.Method;
import java.lang.reflect.Modifier;
import java.util.Arrays;
import java.util.Set;
import java.util.TreeSet;

/** The public face, and nothing beside it. */
public final class FaceTest {
    private static final Set<String> FACE = new TreeSet<>(Arrays.asList(
            "new()", "feed(5)", "end(1)", "open(0)", "go(1)", "trailer(0)", "item(1)", "find(0)",
            "follow(0)", "look(1)", "bytes(1)", "decode(0)", "octet(1)", "put(1)", "pour(1)",
            "free(1)", "save(0)", "pages(0)", "page(1)", "count(1)", "state(2)",
            "REFUSED", "NONE", "FULL", "BROKEN"));

    public static void main(String[] args) {
        Set<String> seen = new TreeSet<>();
        for (Constructor<?> c : PaperFile.class.getDeclaredConstructors()) {
            note(seen, c, "new()");
        }
        for (Method m : PaperFile.class.getDeclaredMethods()) {
            note(seen, m, m.getName() + "(" + m.getParameterCount() + ")");
        }
        for (Field f : PaperFile.class.getDeclaredFields()) {
            note(seen, f, f.getName());
        }
        Desk.due("the face", seen, FACE);
        Desk.due("final", Modifier.isFinal(PaperFile.class.getModifiers()), true);
        Desk.due("REFUSED", PaperFile.REFUSED, -1);
        Desk.due("NONE", PaperFile.NONE, -2);
        Desk.due("FULL", PaperFile.FULL, -3);
        Desk.due("BROKEN", PaperFile.BROKEN, -4);
        Desk.finish();
    }

    private static void note(Set<String> seen, Member member, String name) {
        if (!Modifier.isPrivate(member.getModifiers())) {
            seen.add(name);
        }
    }
}
