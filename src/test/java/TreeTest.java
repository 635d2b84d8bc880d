/** Promises 4, 5, 6, 14, 15 and 16: the document, its tree and its pages. */
public final class TreeTest {
    private static final String TREE = "<< /Type /Pages /Kids [ 3 0 R ] /Count 1 >>";
    private static final String PAGE = Files.PAGE;

    public static void main(String[] args) {
        aPage();
        roots();
        infos();
        nodes();
        pagesWrong();
        attributes();
        attributesWrong();
        contents();
        contentsWrong();
        theOrder();
        deepTrees();
        manyPages();
        rowsOfReferences();
        Checks.end();
    }

    private static String file(String catalog, String tree, String page, String... others) {
        Files files = new Files().object(1, catalog).object(2, tree).object(3, page);
        for (int i = 0; i < others.length; i++) {
            files.object(4 + i, others[i]);
        }
        return files.table("/Root 1 0 R");
    }

    private static PaperHouse loads(String what, String page, String... others) {
        return Checks.loads(what, file(Files.CATALOG, TREE, page, others), 1);
    }

    private static void wrong(String what, int place, String catalog, String tree, String page, String... others) {
        Checks.refuses(what, file(catalog, tree, page, others), 10, place);
    }

    private static void aPage() {
        PaperHouse x = loads("a page", "<< /Type /Page /Parent 2 0 R /MediaBox [ -1 2.5 30 32767 ] /Rotate -450 >>");
        Checks.due("pages", x.pages(), 1);
        Checks.due("page: object", x.page(0, 0), 3);
        Checks.due("page: box", x.page(0, 1), -65536);
        Checks.due("page: box", x.page(0, 2), 163840);
        Checks.due("page: box", x.page(0, 3), 30 * 65536);
        Checks.due("page: box", x.page(0, 4), 32767 * 65536);
        Checks.due("page: Rotate", x.page(0, 5), -450);
        Checks.due("page: bytes", x.page(0, 6), 0);
        Checks.due("page: another what", x.page(0, 7), 0);
        Checks.due("page: below", x.page(0, -1), 0);
        Checks.due("no such page", x.page(1, 0), 0);
        Checks.due("no such page below", x.page(-1, 0), 0);
        Checks.due("objects", x.objects(), 3);
    }

    private static void roots() {
        String none = Files.empty().table("");
        Checks.refuses("no Root", none, 10, 0);
        Checks.refuses("Root a dict", Files.empty().table("/Root << /Type /Catalog /Pages 2 0 R >>"), 10, 0);
        Checks.refuses("Root leads nowhere", Files.empty().table("/Root 9 0 R"), 10, 0);
        Checks.refuses("Root of another generation", Files.empty().table("/Root 1 1 R"), 10, 0);
        Checks.refuses("Root a whole", Files.empty().object(3, "5").table("/Root 3 0 R"), 10, 0);
        Checks.refuses("Root a stream", Files.empty().stream(3, "/Type /Catalog /Pages 2 0 R", "").table("/Root 3 0 R"), 10, 0);
        wrong("another Type", 1, Files.CATALOG.replace("Catalog", "catalog"), TREE, PAGE);
        wrong("no Type", 1, Files.CATALOG.replace("/Type", "/Typ"), TREE, PAGE);
        wrong("Pages a dict", 1, "<< /Type /Catalog /Pages " + Files.NO_PAGES + " >>", TREE, PAGE);
        wrong("Pages leads nowhere", 1, Files.CATALOG.replace("2 0 R", "9 0 R"), TREE, PAGE);
        wrong("Pages of no dict", 1, Files.CATALOG.replace("2 0 R", "4 0 R"), TREE, PAGE, "[ ]");
        wrong("no Pages", 1, "<< /Type /Catalog >>", TREE, PAGE);
        wrong("the first is a page", 3, Files.CATALOG.replace("2 0 R", "3 0 R"), TREE, PAGE);
        PaperHouse x = Checks.loads("through references", Files.empty().object(3, "1 0 R").object(4, "3 0 R")
                .table("/Root 4 0 R /Info 3 0 R"), 0);
        Checks.due("Root's number", x.count(1), 1);
        Checks.due("Info's number", x.count(2), 1);
    }

    private static void infos() {
        Checks.due("Info", Checks.loads("Info", Files.empty().object(3, "<< >>").table("/Root 1 0 R /Info 3 0 R"), 0).count(2), 3);
        Checks.refuses("Info null", Files.empty().table("/Root 1 0 R /Info null"), 10, 0);
        Checks.refuses("Info a dict", Files.empty().table("/Root 1 0 R /Info << >>"), 10, 0);
        Checks.refuses("Info leads nowhere", Files.empty().table("/Root 1 0 R /Info 7 0 R"), 10, 0);
        Checks.refuses("Info a string", Files.empty().object(3, "(x)").table("/Root 1 0 R /Info 3 0 R"), 10, 0);
        Checks.refuses("Info a stream", Files.empty().stream(3, "", "").table("/Root 1 0 R /Info 3 0 R"), 10, 0);
        Checks.refuses("Info is looked at last", new Files().object(1, Files.CATALOG).object(2, TREE)
                .object(3, "<< >>").table("/Root 1 0 R /Info null"), 10, 3);
    }

    private static void nodes() {
        wrong("another Type of a node", 2, Files.CATALOG, TREE.replace("/Pages", "/Page"), PAGE);
        wrong("no Kids", 2, Files.CATALOG, TREE.replace("/Kids", "/Kid"), PAGE);
        wrong("Kids a whole", 2, Files.CATALOG, TREE.replace("[ 3 0 R ]", "5"), PAGE);
        wrong("a kid that is no reference", 2, Files.CATALOG, TREE.replace("3 0 R", "3 0 R 5"), PAGE);
        wrong("a kid that is null", 2, Files.CATALOG, TREE.replace("3 0 R", "9 0 R"), PAGE);
        wrong("a kid that is an array", 2, Files.CATALOG, TREE.replace("3 0 R", "4 0 R"), PAGE, "[ ]");
        wrong("no Count", 2, Files.CATALOG, TREE.replace("/Count", "/Coun"), PAGE);
        wrong("another Count", 2, Files.CATALOG, TREE.replace("Count 1", "Count 2"), PAGE);
        wrong("Count a real", 2, Files.CATALOG, TREE.replace("Count 1", "Count 1.0"), PAGE);
        wrong("a kid twice", 2, Files.CATALOG, "<< /Type /Pages /Kids [ 3 0 R 3 0 R ] /Count 2 >>", PAGE);
        wrong("the node itself", 2, Files.CATALOG, "<< /Type /Pages /Kids [ 2 0 R ] /Count 0 >>", PAGE);
        wrong("a kid of two nodes", 4, Files.CATALOG, "<< /Type /Pages /Kids [ 3 0 R 4 0 R ] /Count 2 >>", PAGE,
                "<< /Type /Pages /Parent 2 0 R /Kids 5 0 R /Count 1 >>", "[ 3 0 R ]");
        PaperHouse x = Checks.loads("three levels", file(Files.CATALOG, "<< /Type 6 0 R /Kids 7 0 R /Count 8 0 R >>", PAGE,
                "<< /Type /Pages /Parent 2 0 R /Kids [ 5 0 R ] /Count 1 >>",
                PAGE.replace("2 0 R", "4 0 R"), "/Pages", "[ 4 0 R 3 0 R ]", "2"), 2);
        Checks.due("from the left", x.page(0, 0), 5);
        Checks.due("then", x.page(1, 0), 3);
        Checks.loads("Parent of the first is free", file(Files.CATALOG, TREE.replace("/Count", "/Parent 5 /Count"), PAGE), 1);
    }

    private static void pagesWrong() {
        wrong("another Type of a page", 3, Files.CATALOG, TREE, PAGE.replace("/Page ", "/Pag "));
        wrong("a catalog as a page", 3, Files.CATALOG, TREE, PAGE.replace("/Page ", "/Catalog "));
        wrong("no Parent", 3, Files.CATALOG, TREE, PAGE.replace("/Parent", "/Parens"));
        wrong("another Parent", 3, Files.CATALOG, TREE, PAGE.replace("2 0 R", "1 0 R"));
        wrong("Parent of another generation", 3, Files.CATALOG, TREE, PAGE.replace("2 0 R", "2 1 R"));
        wrong("no MediaBox", 3, Files.CATALOG, TREE, "<< /Type /Page /Parent 2 0 R >>");
        wrong("MediaBox null", 3, Files.CATALOG, TREE, "<< /Type /Page /Parent 2 0 R /MediaBox null >>");
        loads("Parent through a row", PAGE.replace("2 0 R", "4 0 R"), "2 0 R");
        Checks.refuses("a stream as a page", new Files().object(1, Files.CATALOG).object(2, TREE)
                .stream(3, "/Type /Page /Parent 2 0 R /MediaBox [ 0 0 1 1 ]", "").table("/Root 1 0 R"), 10, 2);
    }

    private static void attributes() {
        PaperHouse x = Checks.loads("from above", file(Files.CATALOG,
                "<< /Type /Pages /Kids [ 3 0 R 4 0 R ] /Count 2 /MediaBox 6 0 R /Rotate 90 >>",
                "<< /Type /Page /Parent 2 0 R /Rotate 180 >>",
                "<< /Type /Pages /Parent 2 0 R /Kids [ 5 0 R ] /Count 1 /Rotate null >>",
                "<< /Type /Page /Parent 4 0 R /MediaBox 9 0 R >>",
                "[ 1 2 7 0 R 4 ]", "8 0 R", "3.5"), 2);
        Checks.due("box through references", x.page(0, 3), 229376);
        Checks.due("box", x.page(1, 4), 4 * 65536);
        Checks.due("own Rotate", x.page(0, 5), 180);
        Checks.due("Rotate from above", x.page(1, 5), 90);
    }

    private static void attributesWrong() {
        String[] wrong = {"/MediaBox [ 0 0 1 ]", "/MediaBox [ 0 0 1 1 1 ]", "/MediaBox 5", "/MediaBox [ 0 0 1 32768 ]",
            "/MediaBox [ 0 0 1 /A ]", "/MediaBox [ 0 0 1 9 0 R ]", "/Resources [ ]", "/Resources 4 0 R", "/Rotate 45",
            "/Rotate 90.0", "/Rotate /A"};
        String stream = "<< /Length 0 >> stream\n\nendstream";
        for (String entry : wrong) {
            String own = entry.startsWith("/MediaBox") ? "" : "/MediaBox [ 0 0 1 1 ] ";
            wrong("a page with " + entry, 3, Files.CATALOG, TREE, "<< /Type /Page /Parent 2 0 R " + own + entry + " >>", stream);
            wrong("a node with " + entry, 2, Files.CATALOG, TREE.replace("/Count", entry + " /Count"), PAGE, stream);
        }
        loads("null ones", "<< /Type /Page /Parent 2 0 R /MediaBox [ 0 0 1 1 ] /Resources null /Rotate 9 0 R /Contents null >>");
        loads("good ones", "<< /Type /Page /Parent 2 0 R /MediaBox [ 0 0 1 -32768 ] /Resources << >> /Rotate 0 >>");
    }

    private static PaperHouse withContents(String what, String entry) {
        return Checks.loads(what, contentsFile(entry), 1);
    }

    private static String contentsFile(String entry) {
        return new Files().object(1, Files.CATALOG).object(2, TREE)
                .object(3, "<< /Type /Page /Parent 2 0 R /MediaBox [ 0 0 1 1 ] /Contents " + entry + " >>")
                .stream(4, "", "abc").stream(5, "", "").object(6, "4 0 R").object(7, "[ 4 0 R 5 0 R 6 0 R ]")
                .object(8, "(x)").table("/Root 1 0 R");
    }

    private static void contents() {
        Checks.due("one", withContents("one", "4 0 R").page(0, 6), 3);
        Checks.due("through a row", withContents("a row", "6 0 R").page(0, 6), 3);
        Checks.due("an array", withContents("an array", "[ 4 0 R 4 0 R ]").page(0, 6), 7);
        Checks.due("an array elsewhere", withContents("elsewhere", "7 0 R").page(0, 6), 8);
        Checks.due("an empty array", withContents("empty", "[ ]").page(0, 6), 0);
        Checks.due("none", withContents("none", "99 0 R").page(0, 6), 0);
    }

    private static void contentsWrong() {
        for (String entry : new String[] {"8 0 R", "(x)", "<< >>", "3 0 R", "[ 4 0 R 8 0 R ]", "[ null ]", "[ 99 0 R ]", "[ 7 0 R ]"}) {
            Checks.refuses("Contents " + entry, contentsFile(entry), 10, 3);
        }
        String zeros = Files.deflated(Files.repeat(" ", 7999));
        for (int more = 0; more <= 1; more++) {
            Files files = new Files().object(1, Files.CATALOG).object(2, TREE)
                    .object(3, "<< /Type /Page /Parent 2 0 R /MediaBox [ 0 0 1 1 ] /Contents [ 4 0 R 4 0 R 4 0 R 4 0 R 4 0 R "
                            + (more == 1 ? "5 0 R " : "") + "] >>")
                    .stream(4, "/Filter /FlateDecode", zeros).stream(5, "", "");
            // Five of 7999 with four bytes between are 39999; with one more between, 40000.
            if (more == 0) {
                Checks.due("39999", Checks.loads("39999", files.table("/Root 1 0 R"), 1).page(0, 6), 39999);
            } else {
                Checks.due("40000", Checks.loads("40000", files.table("/Root 1 0 R"), 1).page(0, 6), 40000);
            }
        }
        Files files = new Files().object(1, Files.CATALOG).object(2, TREE)
                .object(3, "<< /Type /Page /Parent 2 0 R /MediaBox [ 0 0 1 1 ] /Contents [ 4 0 R 4 0 R 4 0 R 4 0 R 4 0 R 5 0 R 5 0 R ] >>")
                .stream(4, "/Filter /FlateDecode", zeros).stream(5, "", "");
        Checks.refuses("40001", files.table("/Root 1 0 R"), 5, 3);
    }

    private static void theOrder() {
        wrong("Kids ahead of Count", 3, Files.CATALOG, TREE.replace("Count 1", "Count 7"), PAGE.replace("/Page ", "/Pag "));
        wrong("Rotate of a node ahead of Kids", 2, Files.CATALOG, TREE.replace("/Count 1", "/Count 1 /Rotate 1"), "5");
        wrong("the first kid first", 3, Files.CATALOG, "<< /Type /Pages /Kids [ 3 0 R 5 ] /Count 2 >>", "<< /Type /Pages >>");
    }

    private static void deepTrees() {
        for (int deep = 20; deep <= 21; deep++) {
            Files files = new Files().object(1, Files.CATALOG);
            for (int n = 2; n <= deep; n++) {
                String parent = n == 2 ? "" : "/Parent " + (n - 1) + " 0 R ";
                files.object(n, "<< /Type /Pages " + parent + "/Kids [ " + (n + 1) + " 0 R ] /Count 1 >>");
            }
            files.object(deep + 1, PAGE.replace("2 0 R", deep + " 0 R"));
            if (deep == 20) {
                Checks.loads("20 below one another", files.table("/Root 1 0 R"), 1);
            } else {
                Checks.refuses("21 below one another", files.table("/Root 1 0 R"), 5, 22);
            }
        }
    }

    private static void manyPages() {
        for (int many = 60; many <= 61; many++) {
            StringBuilder kids = new StringBuilder();
            Files files = new Files().object(1, Files.CATALOG);
            for (int n = 3; n < 3 + many; n++) {
                kids.append(n).append(" 0 R ");
                files.object(n, "<</Type/Page/Parent 2 0 R>>");
            }
            files.object(2, "<< /Type /Pages /MediaBox [ 0 0 1 1 ] /Count " + many + " /Kids [ " + kids + "] >>");
            if (many == 60) {
                Checks.due("60 pages", Checks.loads("60 pages", files.table("/Root 1 0 R"), 60).page(59, 0), 62);
            } else {
                Checks.refuses("61 pages", files.table("/Root 1 0 R"), 5, 63);
            }
        }
    }

    /** Rotate leads through a row of so many references. */
    private static void rowsOfReferences() {
        for (int many = 20; many <= 21; many++) {
            Files files = new Files().object(1, Files.CATALOG).object(2, TREE)
                    .object(3, "<< /Type /Page /Parent 2 0 R /MediaBox [ 0 0 1 1 ] /Rotate 4 0 R >>");
            for (int n = 4; n < 3 + many; n++) {
                files.object(n, (n + 1) + " 0 R");
            }
            files.object(3 + many, "90");
            PaperHouse x = Checks.loads("a row of " + many, files.table("/Root 1 0 R"), 1);
            Checks.due("Rotate through a row of " + many, x.page(0, 5), many == 20 ? 90 : 0);
        }
        PaperHouse y = loads("a ring", "<< /Type /Page /Parent 2 0 R /MediaBox [ 0 0 1 1 ] /Rotate 4 0 R >>", "5 0 R", "4 0 R");
        Checks.due("Rotate in a ring", y.page(0, 5), 0);
    }
}
