/** Promises 18 and 19: pages, page. */
public final class PagesTest {
    private static final String PAGE = "<</Type/Page>>";

    public static void main(String[] args) {
        ordinary();
        roots();
        nodes();
        order();
        numberZero();
        depth();
        withChanges();
        Desk.finish();
    }

    private static Desk book(String root, String... values) {
        Paper paper = new Paper();
        for (int k = 0; k < values.length; k++) {
            paper.object(k + 1, values[k]);
        }
        return Desk.opened(paper.trailer("<</Size " + (values.length + 1) + root + ">>").last().toString());
    }

    private static void pages(String what, Desk d, int... numbers) {
        Desk.due(what, d.file.pages(), numbers.length);
        for (int k = 0; k < numbers.length; k++) {
            Desk.due(what + ", page " + k, d.file.page(k), numbers[k]);
        }
        Desk.due(what + ", behind the last", d.file.page(numbers.length), -2);
        Desk.due(what + ", before the first", d.file.page(-1), -2);
        Desk.due(what + ", far", d.file.page(Integer.MAX_VALUE), -2);
    }

    private static void broken(String what, Desk d) {
        Desk.due(what, d.file.pages(), -4);
        Desk.due(what + ", page 0", d.file.page(0), -2);
    }

    private static void ordinary() {
        Desk.due("without a file", new Desk().file.pages(), -2);
        Desk.due("without a file", new Desk().file.page(0), -2);
        pages("the sample", Desk.opened(Paper.sample()), 3, 5);
    }

    private static void roots() {
        String catalog = "<</Pages 2 0 R>>";
        pages("no kids", book("/Root 1 0 R", catalog, "<</Type/Pages/Kids[]>>"));
        pages("one page alone", book("/Root 1 0 R", catalog, PAGE), 2);
        pages("a Root that is its own Pages", book("/Root 1 0 R", "<</Type/Page/Pages 1 0 R>>"), 1);
        broken("no Root", book("", catalog, PAGE));
        broken("Root a DICT", book("/Root" + catalog, catalog, PAGE));
        broken("Root to nothing", book("/Root 3 0 R", catalog, PAGE));
        broken("Root of another generation", book("/Root 1 1 R", catalog, PAGE));
        broken("Root to an ARRAY", book("/Root 1 0 R", "[/Pages 2 0 R]", PAGE));
        broken("Root to a REF", book("/Root 3 0 R", catalog, PAGE, "1 0 R"));
        broken("Root to a STREAM", book("/Root 1 0 R", Paper.stream("/Pages 2 0 R", ""), PAGE));
        broken("no Pages", book("/Root 1 0 R", "<<>>", PAGE));
        broken("Pages a DICT", book("/Root 1 0 R", "<</Pages" + PAGE + ">>", PAGE));
        broken("Pages to a REF", book("/Root 1 0 R", "<</Pages 3 0 R>>", PAGE, "2 0 R"));
        broken("Pages to a STREAM", book("/Root 1 0 R", catalog, Paper.stream("/Type/Page", "")));
        broken("Pages of another generation", book("/Root 1 0 R", "<</Pages 2 5 R>>", PAGE));
    }

    private static void node(String what, String value, int... numbers) {
        Desk d = book("/Root 1 0 R", "<</Pages 2 0 R>>", value, PAGE, "[3 0 R]", "/Page", Paper.stream("/Type/Page", ""), "3 0 R",
                "<</Type/Pages/Kids[3 0 R]>>");
        if (numbers.length == 0) {
            broken(what, d);
        } else {
            pages(what, d, numbers);
        }
    }

    private static void nodes() {
        node("plain", "<</Type/Pages/Kids[3 0 R]>>", 3);
        node("names in another order", "<</Kids[3 0 R]/X 1/Type/Pages>>", 3);
        node("a Page's Kids are not looked at", "<</Type/Page/Kids 5>>", 2);
        node("no Type", "<</Kids[3 0 R]>>");
        node("another Type", "<</Type/Catalog/Kids[3 0 R]>>");
        node("a longer Type", "<</Type/Pagess/Kids[3 0 R]>>");
        node("a shorter Type", "<</Type/Pag/Kids[3 0 R]>>");
        node("Type a STRING", "<</Type(Pages)/Kids[3 0 R]>>");
        node("Type a REF", "<</Type 5 0 R/Kids[3 0 R]>>");
        node("no Kids", "<</Type/Pages>>");
        node("Kids a REF", "<</Type/Pages/Kids 4 0 R>>");
        node("Kids of another kind", "<</Type/Pages/Kids<</A 3 0 R>>>>");
        node("a kid that is no REF", "<</Type/Pages/Kids[3 0 R" + PAGE + "]>>");
        node("a kid that is an INT", "<</Type/Pages/Kids[3]>>");
        node("a kid that is no DICT", "<</Type/Pages/Kids[4 0 R]>>");
        node("a kid that is a STREAM", "<</Type/Pages/Kids[6 0 R]>>");
        node("a kid that is a REF to a REF", "<</Type/Pages/Kids[7 0 R]>>");
        node("a kid that is free", "<</Type/Pages/Kids[0 0 R]>>");
        node("a kid of another generation", "<</Type/Pages/Kids[3 1 R]>>");
        node("a kid that is the Root", "<</Type/Pages/Kids[1 0 R]>>");
        node("a kid twice", "<</Type/Pages/Kids[3 0 R 3 0 R]>>");
        node("a kid in two places", "<</Type/Pages/Kids[3 0 R 8 0 R]>>");
        node("itself", "<</Type/Pages/Kids[2 0 R]>>");
    }

    private static void order() {
        pages("in the order of Kids", book("/Root 1 0 R", "<</Pages 9 0 R>>", "<</Type/Pages/Kids[6 0 R 3 0 R]>>", PAGE, PAGE,
                "<</Type/Pages/Kids[]>>", PAGE, PAGE, "<</Type/Pages/Kids[10 0 R]>>", "<</Type/Pages/Kids[7 0 R 2 0 R 5 0 R 8 0 R 4 0 R]>>",
                PAGE), 7, 6, 3, 10, 4);
        String[] many = new String[62];
        StringBuilder kids = new StringBuilder();
        int[] numbers = new int[60];
        for (int k = 0; k < 60; k++) {
            many[k + 2] = PAGE;
            numbers[k] = 62 - k;
            kids.append(62 - k).append(" 0 R ");
        }
        many[0] = "<</Pages 2 0 R>>";
        many[1] = "<</Type/Pages/Kids[" + kids + "]>>";
        pages("sixty", book("/Root 1 0 R", many), numbers);
    }

    private static void numberZero() {
        Desk d = Desk.opened(new Paper().object(0, PAGE).object(1, "<</Type/Pages/Kids[0 0 R]/Pages 1 0 R>>")
                .trailer("<</Size 2/Root 1 0 R>>").last().toString());
        pages("a page of number 0", d, 0);
        pages("once more", d, 0);
        Desk.due("Root is number 0", Desk.opened(new Paper().object(0, "<</Pages 1 0 R>>").object(1, PAGE)
                .trailer("<</Size 2/Root 0 0 R>>").last().toString()).file.pages(), 1);
    }

    private static void depth() {
        for (int deep = 7; deep <= 9; deep++) {
            String[] values = new String[deep + 1];
            values[0] = "<</Pages 2 0 R>>";
            for (int k = 1; k < deep; k++) {
                values[k] = "<</Type/Pages/Kids[" + (k + 2) + " 0 R]>>";
            }
            values[deep] = PAGE;
            Desk d = book("/Root 1 0 R", values);
            if (deep <= 8) {
                pages(deep + " deep", d, deep + 1);
            } else {
                broken(deep + " deep", d);
            }
            values[deep] = "<</Type/Pages/Kids[]>>";
            Desk.due(deep + " deep without a page", book("/Root 1 0 R", values).file.pages(), deep <= 8 ? 0 : -4);
        }
    }

    private static void withChanges() {
        Desk d = Desk.opened(Paper.sample());
        d.go(2);
        Desk.due("pages", d.file.pages(), 2);
        Desk.due("the point stays", d.look(0), 7);
        d.put(4, PAGE);
        pages("a page put", d, 3, 4);
        d.free(4);
        broken("a page freed", d);
        d.put(4, PAGE);
        broken("a page of a later generation", d);
        d.put(2, "<</Type/Pages/Kids[4 1 R 3 0 R]>>");
        pages("with its generation", d, 4, 3);
        d.pour(3, "");
        broken("a page poured over", d);
        d.put(2, PAGE);
        pages("one page", d, 2);
        d.put(1, "<</Pages 5 0 R>>");
        pages("another Pages", d, 5);
        d.free(1);
        broken("no Root", d);
    }
}
