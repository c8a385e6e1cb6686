/** The boundaries of pages: promises 18 and 19. */
public final class PagesEdgeTest {
    private static final String PAGE = "<</Type/Page>>";
    private static final String CATALOG = "<</Pages 2 0 R>>";

    public static void main(String[] args) {
        withoutFile();
        noPages();
        root();
        pagesOfRoot();
        types();
        kids();
        eightDeep();
        eachObjectOnce();
        streamsAreNoDicts();
        manyPages();
        pageNumbers();
        pagesOfBroken();
        Desk.finish();
    }

    private static Desk book(String root, String... values) {
        Paper paper = new Paper();
        for (int k = 0; k < values.length; k++) {
            paper.object(k + 1, values[k]);
        }
        return Desk.opened(paper.trailer("<</Size " + (values.length + 1) + root + ">>").last().toString()).tape("TAPE");
    }

    private static Desk rooted(String... values) {
        return book("/Root 1 0 R", values);
    }

    private static void pages(String what, Desk d, int... numbers) {
        d.stays(what, numbers.length, PaperFile::pages);
        for (int k = 0; k < numbers.length; k++) {
            Desk.due(what + ", page " + k, d.page(k), numbers[k]);
        }
        d.stays(what + ", behind the last", -2, x -> x.page(numbers.length));
        d.stays(what + ", before the first", -2, x -> x.page(-1));
    }

    private static void broken(String what, Desk d) {
        d.stays(what, -4, PaperFile::pages);
        d.stays(what + ", page 0", -2, x -> x.page(0));
        d.stays(what + ", page -1", -2, x -> x.page(-1));
    }

    private static void withoutFile() {
        Desk.says("NONE without a file");
        new Desk().stays("pages", -2, PaperFile::pages);
        new Desk().stays("page", -2, x -> x.page(0));
    }

    private static void noPages() {
        Desk.says("How many PAGES");
        pages("no Kids in Kids", rooted(CATALOG, "<</Type/Pages/Kids[]>>"));
        pages("one", rooted(CATALOG, "<</Type/Pages/Kids[3 0 R]>>", PAGE), 3);
        pages("two", rooted(CATALOG, "<</Type/Pages/Kids[4 0 R 3 0 R]>>", PAGE, PAGE), 4, 3);
        pages("Pages that have none", rooted(CATALOG, "<</Type/Pages/Kids[3 0 R 4 0 R]>>", "<</Type/Pages/Kids[]>>", "<</Type/Pages/Kids[]>>"));
        pages("a Page alone", rooted(CATALOG, PAGE), 2);
    }

    private static void root() {
        Desk.says("from Root of the latest trailer (a REF to a DICT)");
        for (String root : new String[] {"", "/Root 0 0 R", "/Root 1 1 R", "/Root 3 0 R", "/Root 4 0 R", "/Root 299 0 R", "/Root" + CATALOG, "/Root null", "/Root 1",
            "/root 1 0 R", "/A<</Root 1 0 R>>"}) {
            broken("Root " + root, book(root, CATALOG, PAGE, "1 0 R"));
        }
        for (String value : new String[] {"null", "[/Pages 2 0 R]", "2 0 R", Paper.stream("/Pages 2 0 R", "")}) {
            broken("a Root that is " + value, rooted(value, PAGE));
        }
        Desk latest = Desk.opened(new Paper().object(1, CATALOG).object(2, PAGE).object(3, "<</Pages 4 0 R>>").object(4, PAGE)
                .trailer("<</Size 5/Root 1 0 R>>").trailer(5, "/Root 3 0 R").last().toString());
        pages("of the latest trailer", latest, 4);
        broken("not of an older one", Desk.opened(new Paper().object(1, CATALOG).object(2, PAGE).trailer("<</Size 5/Root 1 0 R>>")
                .trailer(5, "").last().toString()));
    }

    private static void pagesOfRoot() {
        Desk.says("its Pages (a REF to a DICT)");
        for (String value : new String[] {"", "/Pages 0 0 R", "/Pages 2 1 R", "/Pages 3 0 R", "/Pages 4 0 R", "/Pages" + PAGE, "/Pages null", "/pages 2 0 R", "/Pages[2 0 R]"}) {
            broken("Pages " + value, rooted("<<" + value + ">>", PAGE, "2 0 R"));
        }
    }

    private static void node(String what, boolean right, String value) {
        Desk d = rooted(CATALOG, value, PAGE, "[3 0 R]", "/Pages", Paper.stream("/Type/Page", ""), "3 0 R");
        if (right) {
            pages(what, d, 3);
        } else {
            broken(what, d);
        }
    }

    private static void types() {
        Desk.says("a DICT whose Type is Pages has Kids, an ARRAY of REFS to DICTS of such ones, or whose Type is Page");
        node("Type Pages", true, "<</Type/Pages/Kids[3 0 R]>>");
        for (String type : new String[] {"", "/Type/Pagess", "/Type/Pag", "/Type/pages", "/Type/Catalog", "/type/Pages", "/Type null"}) {
            node("Type " + type, false, "<<" + type + "/Kids[3 0 R]>>");
        }
        pages("a Page with Kids", rooted(CATALOG, "<</Type/Page/Kids[3 0 R]>>", PAGE), 2);
        Desk.says("Type is a NAME and Kids an ARRAY there, no REF to one");
        for (String type : new String[] {"/Type(Pages)", "/Type 5 0 R", "/Type[/Pages]", "/Type<5061676573>"}) {
            node("Type " + type, false, "<<" + type + "/Kids[3 0 R]>>");
        }
        for (String kids : new String[] {"", "/Kids 4 0 R", "/Kids 3 0 R", "/Kids null", "/Kids<</A 3 0 R>>", "/Kids(3)", "/kids[3 0 R]"}) {
            node("Kids " + kids, false, "<</Type/Pages" + kids + ">>");
        }
    }

    private static void kids() {
        for (String kid : new String[] {"null", "3", PAGE, "/A", "[3 0 R]", "0 0 R", "8 0 R", "299 0 R", "3 1 R", "4 0 R", "5 0 R", "7 0 R", "1 0 R"}) {
            node("a kid " + kid, false, "<</Type/Pages/Kids[" + kid + "]>>");
            node("a kid behind another " + kid, false, "<</Type/Pages/Kids[3 0 R " + kid + "]>>");
            node("a kid before another " + kid, false, "<</Type/Pages/Kids[" + kid + " 3 0 R]>>");
        }
    }

    private static void eightDeep() {
        Desk.says("at most 8 deep (that of Pages is 1)");
        for (int deep = 1; deep <= 10; deep++) {
            String[] values = new String[deep + 1];
            values[0] = CATALOG;
            for (int k = 1; k < deep; k++) {
                values[k] = "<</Type/Pages/Kids[" + (k + 2) + " 0 R]>>";
            }
            values[deep] = PAGE;
            Desk page = rooted(values);
            values[deep] = "<</Type/Pages/Kids[]>>";
            Desk none = rooted(values);
            if (deep <= 8) {
                pages("a Page " + deep + " deep", page, deep + 1);
                pages("Pages " + deep + " deep", none);
            } else {
                broken("a Page " + deep + " deep", page);
                broken("Pages " + deep + " deep", none);
            }
        }
        String[] twice = {CATALOG, "<</Type/Pages/Kids[3 0 R 10 0 R]>>", "<</Type/Pages/Kids[4 0 R]>>", "<</Type/Pages/Kids[5 0 R]>>",
            "<</Type/Pages/Kids[6 0 R]>>", "<</Type/Pages/Kids[7 0 R]>>", "<</Type/Pages/Kids[8 0 R]>>", "<</Type/Pages/Kids[9 0 R]>>", PAGE,
            "<</Type/Pages/Kids[11 0 R]>>", PAGE};
        pages("8 deep, then less", rooted(twice), 9, 11);
    }

    private static void eachObjectOnce() {
        Desk.says("each object once");
        broken("a Page twice", rooted(CATALOG, "<</Type/Pages/Kids[3 0 R 3 0 R]>>", PAGE));
        broken("a Page twice, another between", rooted(CATALOG, "<</Type/Pages/Kids[3 0 R 4 0 R 3 0 R]>>", PAGE, PAGE));
        broken("a Page here and there", rooted(CATALOG, "<</Type/Pages/Kids[3 0 R 4 0 R]>>", PAGE, "<</Type/Pages/Kids[3 0 R]>>"));
        broken("Pages twice", rooted(CATALOG, "<</Type/Pages/Kids[3 0 R 3 0 R]>>", "<</Type/Pages/Kids[]>>"));
        broken("Pages in themselves", rooted(CATALOG, "<</Type/Pages/Kids[2 0 R]>>"));
        broken("Pages in what is in them", rooted(CATALOG, "<</Type/Pages/Kids[3 0 R]>>", "<</Type/Pages/Kids[2 0 R]>>"));
        pages("two that are alike", rooted(CATALOG, "<</Type/Pages/Kids[3 0 R 4 0 R]>>", PAGE, PAGE), 3, 4);
    }

    private static void streamsAreNoDicts() {
        Desk.says("and a STREAM is no DICT");
        broken("Root", rooted(Paper.stream("/Pages 2 0 R", ""), PAGE));
        broken("Pages", rooted(CATALOG, Paper.stream("/Type/Pages/Kids[3 0 R]", ""), PAGE));
        broken("a Page alone", rooted(CATALOG, Paper.stream("/Type/Page", "")));
        broken("a kid", rooted(CATALOG, "<</Type/Pages/Kids[3 0 R]>>", Paper.stream("/Type/Page", "")));
        Desk d = rooted(CATALOG, "<</Type/Pages/Kids[3 0 R]>>", PAGE);
        d.end(0);
        d.pour(3, "");
        broken("a poured kid", d);
    }

    private static void manyPages() {
        for (int many : new int[] {59, 60}) {
            String[] values = new String[many + 2];
            int[] numbers = new int[many];
            StringBuilder kids = new StringBuilder();
            for (int k = 0; k < many; k++) {
                numbers[k] = many + 2 - k;
                kids.append(numbers[k]).append(" 0 R ");
                values[k + 2] = PAGE;
            }
            values[0] = CATALOG;
            values[1] = "<</Type/Pages/Kids[" + kids + "]>>";
            Desk d = rooted(values);
            Desk.due("pages", d.pages(), many);
            for (int k = 0; k < many; k += 20) {
                Desk.due("page " + k, d.page(k), numbers[k]);
            }
            Desk.due("the last page", d.page(many - 1), numbers[many - 1]);
            Desk.due("behind it", d.page(many), -2);
        }
    }

    private static void pageNumbers() {
        Desk.says("The number of the k-th page, from 0, in the order of Kids");
        Desk d = rooted("<</Pages 6 0 R>>", PAGE, PAGE, PAGE, "<</Type/Pages/Kids[4 0 R 2 0 R]>>", "<</Type/Pages/Kids[7 0 R 5 0 R 3 0 R]>>", PAGE);
        pages("in order", d, 7, 4, 2, 3);
        Desk.says("NONE if there is none");
        for (int k : new int[] {4, 5, -1, -2, 299, 300, Integer.MIN_VALUE, Integer.MAX_VALUE}) {
            d.stays("page " + k, -2, x -> x.page(k));
        }
        Desk edges = Desk.opened(new Paper().object(0, PAGE).object(1, "<</Pages 2 0 R>>").object(2, "<</Type/Pages/Kids[299 65535 R 0 0 R]>>")
                .object(299, 65535, PAGE).trailer("<</Size 300/Root 1 0 R>>").last().toString());
        Desk.due("the numbers at the edges", edges.pages(), 2);
        Desk.due("299", edges.page(0), 299);
        Desk.due("0", edges.page(1), 0);
        Desk none = rooted(CATALOG, "<</Type/Pages/Kids[]>>");
        none.stays("page 0 of none", -2, x -> x.page(0));
    }

    private static void pagesOfBroken() {
        Desk.says("or pages are BROKEN");
        Desk d = rooted(CATALOG, "<</Type/Pages/Kids[3 0 R 4 0 R]>>", PAGE, PAGE);
        Desk.due("page 0", d.page(0), 3);
        d.free(4);
        broken("behind a free", d);
        d.end(0);
        d.put(4, PAGE);
        broken("with a later generation", d);
        d.put(2, "<</Type/Pages/Kids[3 0 R 4 1 R]>>");
        Desk.due("with its generation", d.pages(), 2);
        Desk.due("page 1", d.page(1), 4);
    }
}
