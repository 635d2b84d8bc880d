/** Promises 4, 5, 6, 14, 15 and 16: the document, its tree and its pages. */
public final class TreeTest {
    private static final String TREE = "<< /Type /Pages /Kids [ 3 0 R ] /Count 1 >>";
    private static final String PAGE = Files.PAGE;

    public static void main(String[] args) {
        aPage();
        roots();
        infos();
        nodes();
        pagesWrong();
        attributes();
        attributesWrong();
        contents();
        contentsWrong();
        theOrder();
        deepTrees();
        manyPages();
        rowsOfReferences();
        rootsOfOtherForms();
        longRows();
        kidsOfOtherForms();
        metTwice();
        howDeep();
        parents();
        boxes();
        rotates();
        resources();
        contentsOfOtherForms();
        counts();
        whatGoesAhead();
        theSixtyFirst();
        infosOfOtherForms();
        whatPagesAnswer();
        Checks.end();
    }

    private static String file(String catalog, String tree, String page, String... others) {
        Files files = new Files().object(1, catalog).object(2, tree).object(3, page);
        for (int i = 0; i < others.length; i++) {
            files.object(4 + i, others[i]);
        }
        return files.table("/Root 1 0 R");
    }

    private static House loads(String what, String page, String... others) {
        return Checks.loads(what, file(Files.CATALOG, TREE, page, others), 1);
    }

    private static void wrong(String what, int place, String catalog, String tree, String page, String... others) {
        Checks.refuses(what, file(catalog, tree, page, others), 10, place);
    }

    private static void aPage() {
        House x = loads("a page", "<< /Type /Page /Parent 2 0 R /MediaBox [ -1 2.5 30 32767 ] /Rotate -450 >>");
        Checks.due("pages", x.pages(), 1);
        Checks.due("page: object", x.page(0, 0), 3);
        Checks.due("page: box", x.page(0, 1), -65536);
        Checks.due("page: box", x.page(0, 2), 163840);
        Checks.due("page: box", x.page(0, 3), 30 * 65536);
        Checks.due("page: box", x.page(0, 4), 32767 * 65536);
        Checks.due("page: Rotate", x.page(0, 5), -450);
        Checks.due("page: bytes", x.page(0, 6), 0);
        Checks.due("page: another what", x.page(0, 7), 0);
        Checks.due("page: below", x.page(0, -1), 0);
        Checks.due("no such page", x.page(1, 0), 0);
        Checks.due("no such page below", x.page(-1, 0), 0);
        Checks.due("objects", x.objects(), 3);
    }

    private static void roots() {
        String none = Files.empty().table("");
        Checks.refuses("no Root", none, 10, 0);
        Checks.refuses("Root a dict", Files.empty().table("/Root << /Type /Catalog /Pages 2 0 R >>"), 10, 0);
        Checks.refuses("Root leads nowhere", Files.empty().table("/Root 9 0 R"), 10, 0);
        Checks.refuses("Root of another generation", Files.empty().table("/Root 1 1 R"), 10, 0);
        Checks.refuses("Root a whole", Files.empty().object(3, "5").table("/Root 3 0 R"), 10, 0);
        Checks.refuses("Root a stream", Files.empty().stream(3, "/Type /Catalog /Pages 2 0 R", "").table("/Root 3 0 R"), 10, 0);
        wrong("another Type", 1, Files.CATALOG.replace("Catalog", "catalog"), TREE, PAGE);
        wrong("no Type", 1, Files.CATALOG.replace("/Type", "/Typ"), TREE, PAGE);
        wrong("Pages a dict", 1, "<< /Type /Catalog /Pages " + Files.NO_PAGES + " >>", TREE, PAGE);
        wrong("Pages leads nowhere", 1, Files.CATALOG.replace("2 0 R", "9 0 R"), TREE, PAGE);
        wrong("Pages of no dict", 1, Files.CATALOG.replace("2 0 R", "4 0 R"), TREE, PAGE, "[ ]");
        wrong("no Pages", 1, "<< /Type /Catalog >>", TREE, PAGE);
        wrong("the first is a page", 3, Files.CATALOG.replace("2 0 R", "3 0 R"), TREE, PAGE);
        House x = Checks.loads("through references", Files.empty().object(3, "1 0 R").object(4, "3 0 R")
                .table("/Root 4 0 R /Info 3 0 R"), 0);
        Checks.due("Root's number", x.count(1), 1);
        Checks.due("Info's number", x.count(2), 1);
    }

    private static void infos() {
        Checks.due("Info", Checks.loads("Info", Files.empty().object(3, "<< >>").table("/Root 1 0 R /Info 3 0 R"), 0).count(2), 3);
        Checks.refuses("Info null", Files.empty().table("/Root 1 0 R /Info null"), 10, 0);
        Checks.refuses("Info a dict", Files.empty().table("/Root 1 0 R /Info << >>"), 10, 0);
        Checks.refuses("Info leads nowhere", Files.empty().table("/Root 1 0 R /Info 7 0 R"), 10, 0);
        Checks.refuses("Info a string", Files.empty().object(3, "(x)").table("/Root 1 0 R /Info 3 0 R"), 10, 0);
        Checks.refuses("Info a stream", Files.empty().stream(3, "", "").table("/Root 1 0 R /Info 3 0 R"), 10, 0);
        Checks.refuses("Info is looked at last", new Files().object(1, Files.CATALOG).object(2, TREE)
                .object(3, "<< >>").table("/Root 1 0 R /Info null"), 10, 3);
    }

    private static void nodes() {
        wrong("another Type of a node", 2, Files.CATALOG, TREE.replace("/Pages", "/Page"), PAGE);
        wrong("no Kids", 2, Files.CATALOG, TREE.replace("/Kids", "/Kid"), PAGE);
        wrong("Kids a whole", 2, Files.CATALOG, TREE.replace("[ 3 0 R ]", "5"), PAGE);
        wrong("a kid that is no reference", 2, Files.CATALOG, TREE.replace("3 0 R", "3 0 R 5"), PAGE);
        wrong("a kid that is null", 2, Files.CATALOG, TREE.replace("3 0 R", "9 0 R"), PAGE);
        wrong("a kid that is an array", 2, Files.CATALOG, TREE.replace("3 0 R", "4 0 R"), PAGE, "[ ]");
        wrong("no Count", 2, Files.CATALOG, TREE.replace("/Count", "/Coun"), PAGE);
        wrong("another Count", 2, Files.CATALOG, TREE.replace("Count 1", "Count 2"), PAGE);
        wrong("Count a real", 2, Files.CATALOG, TREE.replace("Count 1", "Count 1.0"), PAGE);
        wrong("a kid twice", 2, Files.CATALOG, "<< /Type /Pages /Kids [ 3 0 R 3 0 R ] /Count 2 >>", PAGE);
        wrong("the node itself", 2, Files.CATALOG, "<< /Type /Pages /Kids [ 2 0 R ] /Count 0 >>", PAGE);
        wrong("a kid of two nodes", 4, Files.CATALOG, "<< /Type /Pages /Kids [ 3 0 R 4 0 R ] /Count 2 >>", PAGE,
                "<< /Type /Pages /Parent 2 0 R /Kids 5 0 R /Count 1 >>", "[ 3 0 R ]");
        House x = Checks.loads("three levels", file(Files.CATALOG, "<< /Type 6 0 R /Kids 7 0 R /Count 8 0 R >>", PAGE,
                "<< /Type /Pages /Parent 2 0 R /Kids [ 5 0 R ] /Count 1 >>",
                PAGE.replace("2 0 R", "4 0 R"), "/Pages", "[ 4 0 R 3 0 R ]", "2"), 2);
        Checks.due("from the left", x.page(0, 0), 5);
        Checks.due("then", x.page(1, 0), 3);
        Checks.loads("Parent of the first is free", file(Files.CATALOG, TREE.replace("/Count", "/Parent 5 /Count"), PAGE), 1);
    }

    private static void pagesWrong() {
        wrong("another Type of a page", 3, Files.CATALOG, TREE, PAGE.replace("/Page ", "/Pag "));
        wrong("a catalog as a page", 3, Files.CATALOG, TREE, PAGE.replace("/Page ", "/Catalog "));
        wrong("no Parent", 3, Files.CATALOG, TREE, PAGE.replace("/Parent", "/Parens"));
        wrong("another Parent", 3, Files.CATALOG, TREE, PAGE.replace("2 0 R", "1 0 R"));
        wrong("Parent of another generation", 3, Files.CATALOG, TREE, PAGE.replace("2 0 R", "2 1 R"));
        wrong("no MediaBox", 3, Files.CATALOG, TREE, "<< /Type /Page /Parent 2 0 R >>");
        wrong("MediaBox null", 3, Files.CATALOG, TREE, "<< /Type /Page /Parent 2 0 R /MediaBox null >>");
        loads("Parent through a row", PAGE.replace("2 0 R", "4 0 R"), "2 0 R");
        Checks.refuses("a stream as a page", new Files().object(1, Files.CATALOG).object(2, TREE)
                .stream(3, "/Type /Page /Parent 2 0 R /MediaBox [ 0 0 1 1 ]", "").table("/Root 1 0 R"), 10, 2);
    }

    private static void attributes() {
        House x = Checks.loads("from above", file(Files.CATALOG,
                "<< /Type /Pages /Kids [ 3 0 R 4 0 R ] /Count 2 /MediaBox 6 0 R /Rotate 90 >>",
                "<< /Type /Page /Parent 2 0 R /Rotate 180 >>",
                "<< /Type /Pages /Parent 2 0 R /Kids [ 5 0 R ] /Count 1 /Rotate null >>",
                "<< /Type /Page /Parent 4 0 R /MediaBox 9 0 R >>",
                "[ 1 2 7 0 R 4 ]", "8 0 R", "3.5"), 2);
        Checks.due("box through references", x.page(0, 3), 229376);
        Checks.due("box", x.page(1, 4), 4 * 65536);
        Checks.due("own Rotate", x.page(0, 5), 180);
        Checks.due("Rotate from above", x.page(1, 5), 90);
    }

    private static void attributesWrong() {
        String[] wrong = {"/MediaBox [ 0 0 1 ]", "/MediaBox [ 0 0 1 1 1 ]", "/MediaBox 5", "/MediaBox [ 0 0 1 32768 ]",
            "/MediaBox [ 0 0 1 /A ]", "/MediaBox [ 0 0 1 9 0 R ]", "/Resources [ ]", "/Resources 4 0 R", "/Rotate 45",
            "/Rotate 90.0", "/Rotate /A"};
        String stream = "<< /Length 0 >> stream\n\nendstream";
        for (String entry : wrong) {
            String own = entry.startsWith("/MediaBox") ? "" : "/MediaBox [ 0 0 1 1 ] ";
            wrong("a page with " + entry, 3, Files.CATALOG, TREE, "<< /Type /Page /Parent 2 0 R " + own + entry + " >>", stream);
            wrong("a node with " + entry, 2, Files.CATALOG, TREE.replace("/Count", entry + " /Count"), PAGE, stream);
        }
        loads("null ones", "<< /Type /Page /Parent 2 0 R /MediaBox [ 0 0 1 1 ] /Resources null /Rotate 9 0 R /Contents null >>");
        loads("good ones", "<< /Type /Page /Parent 2 0 R /MediaBox [ 0 0 1 -32768 ] /Resources << >> /Rotate 0 >>");
    }

    private static House withContents(String what, String entry) {
        return Checks.loads(what, contentsFile(entry), 1);
    }

    private static String contentsFile(String entry) {
        return new Files().object(1, Files.CATALOG).object(2, TREE)
                .object(3, "<< /Type /Page /Parent 2 0 R /MediaBox [ 0 0 1 1 ] /Contents " + entry + " >>")
                .stream(4, "", "abc").stream(5, "", "").object(6, "4 0 R").object(7, "[ 4 0 R 5 0 R 6 0 R ]")
                .object(8, "(x)").table("/Root 1 0 R");
    }

    private static void contents() {
        Checks.due("one", withContents("one", "4 0 R").page(0, 6), 3);
        Checks.due("through a row", withContents("a row", "6 0 R").page(0, 6), 3);
        Checks.due("an array", withContents("an array", "[ 4 0 R 4 0 R ]").page(0, 6), 7);
        Checks.due("an array elsewhere", withContents("elsewhere", "7 0 R").page(0, 6), 8);
        Checks.due("an empty array", withContents("empty", "[ ]").page(0, 6), 0);
        Checks.due("none", withContents("none", "99 0 R").page(0, 6), 0);
    }

    private static void contentsWrong() {
        for (String entry : new String[] {"8 0 R", "(x)", "<< >>", "3 0 R", "[ 4 0 R 8 0 R ]", "[ null ]", "[ 99 0 R ]", "[ 7 0 R ]"}) {
            Checks.refuses("Contents " + entry, contentsFile(entry), 10, 3);
        }
        String zeros = Files.deflated(Files.repeat(" ", 7999));
        for (int more = 0; more <= 1; more++) {
            Files files = new Files().object(1, Files.CATALOG).object(2, TREE)
                    .object(3, "<< /Type /Page /Parent 2 0 R /MediaBox [ 0 0 1 1 ] /Contents [ 4 0 R 4 0 R 4 0 R 4 0 R 4 0 R "
                            + (more == 1 ? "5 0 R " : "") + "] >>")
                    .stream(4, "/Filter /FlateDecode", zeros).stream(5, "", "");
            // Five of 7999 with four bytes between are 39999; with one more between, 40000.
            if (more == 0) {
                Checks.due("39999", Checks.loads("39999", files.table("/Root 1 0 R"), 1).page(0, 6), 39999);
            } else {
                Checks.due("40000", Checks.loads("40000", files.table("/Root 1 0 R"), 1).page(0, 6), 40000);
            }
        }
        Files files = new Files().object(1, Files.CATALOG).object(2, TREE)
                .object(3, "<< /Type /Page /Parent 2 0 R /MediaBox [ 0 0 1 1 ] /Contents [ 4 0 R 4 0 R 4 0 R 4 0 R 4 0 R 5 0 R 5 0 R ] >>")
                .stream(4, "/Filter /FlateDecode", zeros).stream(5, "", "");
        Checks.refuses("40001", files.table("/Root 1 0 R"), 5, 3);
    }

    private static void theOrder() {
        wrong("Kids ahead of Count", 3, Files.CATALOG, TREE.replace("Count 1", "Count 7"), PAGE.replace("/Page ", "/Pag "));
        wrong("Rotate of a node ahead of Kids", 2, Files.CATALOG, TREE.replace("/Count 1", "/Count 1 /Rotate 1"), "5");
        wrong("the first kid first", 3, Files.CATALOG, "<< /Type /Pages /Kids [ 3 0 R 5 ] /Count 2 >>", "<< /Type /Pages >>");
    }

    private static void deepTrees() {
        for (int deep = 20; deep <= 21; deep++) {
            Files files = new Files().object(1, Files.CATALOG);
            for (int n = 2; n <= deep; n++) {
                String parent = n == 2 ? "" : "/Parent " + (n - 1) + " 0 R ";
                files.object(n, "<< /Type /Pages " + parent + "/Kids [ " + (n + 1) + " 0 R ] /Count 1 >>");
            }
            files.object(deep + 1, PAGE.replace("2 0 R", deep + " 0 R"));
            if (deep == 20) {
                Checks.loads("20 below one another", files.table("/Root 1 0 R"), 1);
            } else {
                Checks.refuses("21 below one another", files.table("/Root 1 0 R"), 5, 22);
            }
        }
    }

    private static void manyPages() {
        for (int many = 60; many <= 61; many++) {
            StringBuilder kids = new StringBuilder();
            Files files = new Files().object(1, Files.CATALOG);
            for (int n = 3; n < 3 + many; n++) {
                kids.append(n).append(" 0 R ");
                files.object(n, "<</Type/Page/Parent 2 0 R>>");
            }
            files.object(2, "<< /Type /Pages /MediaBox [ 0 0 1 1 ] /Count " + many + " /Kids [ " + kids + "] >>");
            if (many == 60) {
                Checks.due("60 pages", Checks.loads("60 pages", files.table("/Root 1 0 R"), 60).page(59, 0), 62);
            } else {
                Checks.refuses("61 pages", files.table("/Root 1 0 R"), 5, 63);
            }
        }
    }

    /** Rotate leads through a row of so many references. */
    private static void rowsOfReferences() {
        for (int many = 20; many <= 21; many++) {
            Files files = new Files().object(1, Files.CATALOG).object(2, TREE)
                    .object(3, "<< /Type /Page /Parent 2 0 R /MediaBox [ 0 0 1 1 ] /Rotate 4 0 R >>");
            for (int n = 4; n < 3 + many; n++) {
                files.object(n, (n + 1) + " 0 R");
            }
            files.object(3 + many, "90");
            House x = Checks.loads("a row of " + many, files.table("/Root 1 0 R"), 1);
            Checks.due("Rotate through a row of " + many, x.page(0, 5), many == 20 ? 90 : 0);
        }
        House y = loads("a ring", "<< /Type /Page /Parent 2 0 R /MediaBox [ 0 0 1 1 ] /Rotate 4 0 R >>", "5 0 R", "4 0 R");
        Checks.due("Rotate in a ring", y.page(0, 5), 0);
    }

    private static void rootsOfOtherForms() {
        for (String root : new String[] {"null", "5", "(x)", "/Catalog", "[ 1 0 R ]", "true", "1.0", "1 1 R", "9 0 R", "199 0 R"}) {
            Checks.refuses("Root " + root, Files.empty().table("/Root " + root), 10, 0);
        }
        for (String type : new String[] {"/Pages", "/catalog", "(Catalog)", "null", "5", "9 0 R", "/Catalogs", "/Catalo", "/"}) {
            wrong("Type " + type, 1, Files.CATALOG.replace("/Catalog", type), TREE, PAGE);
        }
        for (String pages : new String[] {"null", "5", "/Pages", "[ 2 0 R ]", "2 1 R", "9 0 R", "1 9 R", "4 0 R", "5 0 R"}) {
            Checks.refuses("Pages " + pages, new Files().object(1, Files.CATALOG.replace("2 0 R", pages)).object(2, Files.NO_PAGES)
                    .stream(4, "/Type /Pages /Kids [ ] /Count 0", "").object(5, "5").table("/Root 1 0 R"), 10, 1);
        }
        wrong("Pages is Root", 1, Files.CATALOG.replace("2 0 R", "1 0 R"), TREE, PAGE);
        wrong("the first of another Type", 2, Files.CATALOG, TREE.replace("/Pages", "/Catalog"), PAGE);
        Checks.loads("all by references", new Files().object(1, "<< /Type 4 0 R /Pages 5 0 R >>").object(2, "<< /Type 6 0 R /Kids 7 0 R /Count 8 0 R >>")
                .object(4, "/Catalog").object(5, "2 0 R").object(6, "/Pages").object(7, "[ ]").object(8, "0").table("/Root 1 0 R"), 0);
    }

    /** A row of so many references from object 20 on, which leads to that object at last. */
    private static Files row(Files files, int many, String last) {
        for (int n = 20; n < 19 + many; n++) {
            files.object(n, (n + 1) + " 0 R");
        }
        return files.object(19 + many, last);
    }

    /** A row of 20 leads somewhere, one of 21 is NULL, wherever it begins. */
    private static void longRows() {
        for (int many = 19; many <= 20; many++) {
            // The entry itself is the first of the row, and those from object 20 on are the others.
            boolean leads = many == 19;
            String what = "a row of " + (many + 1);
            led(what + " to Root", row(Files.empty(), many, "1 0 R").table("/Root 20 0 R"), leads, 0, 0);
            led(what + " to Info", row(Files.empty(), many, "1 0 R").table("/Root 1 0 R /Info 20 0 R"), leads, 0, 0);
            led(what + " to Pages", row(new Files().object(1, "<< /Type /Catalog /Pages 20 0 R >>").object(2, Files.NO_PAGES), many, "2 0 R")
                    .table("/Root 1 0 R"), leads, 0, 1);
            led(what + " to a page", row(new Files().object(1, Files.CATALOG).object(2, "<< /Type /Pages /Kids [ 20 0 R ] /Count 1 >>").object(3, PAGE),
                    many, "3 0 R").table("/Root 1 0 R"), leads, 1, 2);
            led(what + " to Parent", row(new Files().object(1, Files.CATALOG).object(2, TREE).object(3, PAGE.replace("2 0 R", "20 0 R")),
                    many, "2 0 R").table("/Root 1 0 R"), leads, 1, 3);
        }
        for (int many = 20; many <= 21; many++) {
            boolean leads = many == 20;
            String what = "a row of " + many;
            led(what + " to Kids", row(new Files().object(1, Files.CATALOG).object(2, "<< /Type /Pages /Kids 20 0 R /Count 0 >>"), many, "[ ]")
                    .table("/Root 1 0 R"), leads, 0, 2);
            led(what + " to Count", row(new Files().object(1, Files.CATALOG).object(2, "<< /Type /Pages /Kids [ ] /Count 20 0 R >>"), many, "0")
                    .table("/Root 1 0 R"), leads, 0, 2);
            led(what + " to Type", row(new Files().object(1, Files.CATALOG).object(2, "<< /Type 20 0 R /Kids [ ] /Count 0 >>"), many, "/Pages")
                    .table("/Root 1 0 R"), leads, 0, 2);
            led(what + " to MediaBox", row(new Files().object(1, Files.CATALOG).object(2, TREE)
                    .object(3, "<< /Type /Page /Parent 2 0 R /MediaBox 20 0 R >>"), many, "[ 0 0 1 1 ]").table("/Root 1 0 R"), leads, 1, 3);
            led(what + " to its part", row(new Files().object(1, Files.CATALOG).object(2, TREE)
                    .object(3, "<< /Type /Page /Parent 2 0 R /MediaBox [ 0 0 20 0 R 1 ] >>"), many, "1").table("/Root 1 0 R"), leads, 1, 3);
            led(what + " to wrong Resources", row(new Files().object(1, Files.CATALOG).object(2, TREE)
                    .object(3, PAGE.replace("/Parent", "/Resources 20 0 R /Parent")), many, "5").table("/Root 1 0 R"), !leads, 1, 3);
            led(what + " to wrong Contents", row(new Files().object(1, Files.CATALOG).object(2, TREE)
                    .object(3, PAGE.replace("/Parent", "/Contents 20 0 R /Parent")), many, "5").table("/Root 1 0 R"), !leads, 1, 3);
        }
    }

    private static void led(String what, String file, boolean leads, int pages, int place) {
        if (leads) {
            Checks.loads(what, file, pages);
        } else {
            Checks.refuses(what, file, 10, place);
        }
    }

    private static void kidsOfOtherForms() {
        for (String kid : new String[] {"null", "5", "(x)", "/Page", "[ 3 0 R ]", PAGE, "3 1 R", "9 0 R", "199 0 R", "4 0 R", "5 0 R", "6 0 R", "7 0 R"}) {
            Files files = new Files().object(1, Files.CATALOG).object(2, "<< /Type /Pages /Kids [ " + kid + " ] /Count 1 >>").object(3, PAGE)
                    .object(4, "[ 3 0 R ]").object(5, "null").stream(6, "/Type /Page /Parent 2 0 R /MediaBox [ 0 0 1 1 ]", "").object(7, "7 0 R");
            Checks.refuses("a kid " + kid, files.table("/Root 1 0 R"), 10, 2);
        }
        for (String kids : new String[] {"3 0 R", "null", "5", "<< /A 3 0 R >>", "(x)", "9 0 R", "1 0 R", "/A"}) {
            wrong("Kids " + kids, 2, Files.CATALOG, TREE.replace("[ 3 0 R ]", kids), PAGE);
        }
        House x = Checks.loads("a kid through a row", file(Files.CATALOG, TREE.replace("3 0 R", "5 0 R"), PAGE, "3 0 R", "4 0 R"), 1);
        Checks.due("the last object has the number", x.page(0, 0), 3);
        for (String type : new String[] {"/Pag", "/Pagess", "(Page)", "null", "5", "9 0 R", "/Catalog", "/page"}) {
            wrong("a kid's Type " + type, 3, Files.CATALOG, TREE, PAGE.replace("/Page ", type + " "));
        }
        wrong("a kid without a Type", 3, Files.CATALOG, TREE, PAGE.replace("/Type /Page", ""));
        wrong("Root as a kid", 1, Files.CATALOG, TREE.replace("3 0 R", "1 0 R"), PAGE);
        House y = Checks.loads("a node of none between", file(Files.CATALOG, "<< /Type /Pages /Kids [ 4 0 R 3 0 R 5 0 R ] /Count 1 >>", PAGE,
                "<< /Type /Pages /Parent 2 0 R /Kids [ ] /Count 0 >>", "<< /Type /Pages /Parent 2 0 R /Kids 6 0 R /Count 0 >>", "[ ]"), 1);
        Checks.due("the page between them", y.page(0, 0), 3);
    }

    private static void metTwice() {
        String four = "<< /Type /Pages /Parent 2 0 R /Kids [ 3 0 R ] /Count 1 >>";
        String both = "<< /Type /Pages /Kids [ 3 0 R 4 0 R ] /Count 2 >>";
        wrong("a page of two", 4, Files.CATALOG, both, PAGE, four);
        wrong("a page of two, the other way", 3, Files.CATALOG, both.replace("3 0 R 4 0 R", "4 0 R 3 0 R"), PAGE, four);
        wrong("twice in one array, of another object", 2, Files.CATALOG, TREE.replace("[ 3 0 R ]", "4 0 R"), PAGE, "[ 3 0 R 3 0 R ]");
        wrong("twice by different references", 2, Files.CATALOG, TREE.replace("3 0 R", "3 0 R 4 0 R"), PAGE, "3 0 R");
        wrong("the first below itself", 4, Files.CATALOG, both, PAGE, four.replace("3 0 R", "2 0 R"));
        wrong("two nodes round", 4, Files.CATALOG, TREE.replace("3 0 R", "4 0 R"), PAGE, four.replace("3 0 R", "4 0 R"));
        wrong("one array of two nodes", 5, Files.CATALOG, "<< /Type /Pages /Kids [ 4 0 R 5 0 R ] /Count 2 >>", PAGE.replace("2 0 R", "4 0 R"),
                four.replace("[ 3 0 R ]", "6 0 R"), four.replace("[ 3 0 R ]", "6 0 R"), "[ 3 0 R ]");
    }

    /** Nodes 2 .. below one another, the last one with that kid. */
    private static Files deep(int nodes, String last) {
        Files files = new Files().object(1, Files.CATALOG);
        for (int n = 2; n < 2 + nodes; n++) {
            String parent = n == 2 ? "" : "/Parent " + (n - 1) + " 0 R ";
            String kids = n < 1 + nodes ? (n + 1) + " 0 R" : last;
            files.object(n, "<< /Type /Pages " + parent + "/Kids [ " + kids + " ] /Count " + (last.isEmpty() ? 0 : 1) + " >>");
        }
        return files;
    }

    private static void howDeep() {
        Checks.loads("20 nodes", deep(20, "").table("/Root 1 0 R"), 0);
        Checks.refuses("21 nodes", deep(21, "").table("/Root 1 0 R"), 5, 22);
        Checks.loads("19 nodes and a page", deep(19, "50 0 R").object(50, PAGE.replace("2 0 R", "20 0 R")).table("/Root 1 0 R"), 1);
        Checks.refuses("20 nodes and a page", deep(20, "50 0 R").object(50, PAGE.replace("2 0 R", "21 0 R")).table("/Root 1 0 R"), 5, 50);
        Checks.refuses("how deep goes ahead of Type", deep(20, "50 0 R").object(50, "<< >>").table("/Root 1 0 R"), 5, 50);
        Checks.refuses("met goes ahead of how deep", deep(20, "7 0 R").table("/Root 1 0 R"), 10, 21);
        Checks.refuses("no dict goes ahead of how deep", deep(20, "50 0 R").object(50, "5").table("/Root 1 0 R"), 10, 21);
    }

    private static void parents() {
        for (String parent : new String[] {"null", "5", "/A", "3 0 R", "1 0 R", "2 1 R", "9 0 R", "[ 2 0 R ]", "4 0 R", "<< /Type /Pages >>"}) {
            wrong("Parent " + parent, 3, Files.CATALOG, TREE, PAGE.replace("2 0 R", parent), "(x)");
        }
        wrong("a node's Parent", 4, Files.CATALOG, TREE.replace("3 0 R", "4 0 R"), PAGE, "<< /Type /Pages /Kids [ ] /Count 0 >>");
        wrong("a node's Parent is another", 4, Files.CATALOG, TREE.replace("3 0 R", "4 0 R"), PAGE, "<< /Type /Pages /Parent 4 0 R /Kids [ ] /Count 0 >>");
        for (String parent : new String[] {"null", "5", "3 0 R", "2 0 R"}) {
            Checks.loads("the first one's Parent " + parent, file(Files.CATALOG, TREE.replace("/Count", "/Parent " + parent + " /Count"), PAGE), 1);
        }
    }

    private static void boxes() {
        for (String part : new String[] {"-32768", "32767", "0", "-32768.0", "32767.99999", ".00001", "4 0 R", "5 0 R"}) {
            for (int i = 0; i < 4; i++) {
                String box = "[ " + Files.repeat("1 ", i) + part + Files.repeat(" 1", 3 - i) + " ]";
                House x = loads("MediaBox " + box, "<< /Type /Page /Parent 2 0 R /MediaBox " + box + " >>", "-7.5", "4 0 R");
                Checks.due("another part of " + box, x.page(0, 1 + (i + 1) % 4), 65536);
                long want = part.endsWith("R") ? -491520 : Math.round(Double.parseDouble(part) * 65536);
                Checks.due("that part of " + box, x.page(0, 1 + i), want);
            }
        }
        for (String part : new String[] {"-32769", "32768", "2147483647", "/A", "(1)", "null", "true", "[ 1 ]", "9 0 R", "4 0 R", "5 0 R", "2 0 R"}) {
            for (int i = 0; i < 4; i++) {
                String box = "[ " + Files.repeat("1 ", i) + part + Files.repeat(" 1", 3 - i) + " ]";
                wrong("MediaBox " + box, 3, Files.CATALOG, TREE, "<< /Type /Page /Parent 2 0 R /MediaBox " + box + " >>", "32768", "5 0 R");
                wrong("a node's " + box, 2, Files.CATALOG, TREE.replace("/Count", "/MediaBox " + box + " /Count"), PAGE, "32768", "5 0 R");
            }
        }
        for (String box : new String[] {"[ ]", "[ 1 1 1 ]", "[ 1 1 1 1 1 ]", "5", "<< /A 1 /B 1 /C 1 /D 1 >>", "(1111)", "/A", "true"}) {
            wrong("MediaBox " + box, 3, Files.CATALOG, TREE, "<< /Type /Page /Parent 2 0 R /MediaBox " + box + " >>");
            wrong("a node's " + box, 2, Files.CATALOG, TREE.replace("/Count", "/MediaBox " + box + " /Count"), PAGE);
        }
        for (String box : new String[] {"null", "9 0 R", "4 0 R", "2 1 R"}) {
            wrong("no MediaBox: " + box, 3, Files.CATALOG, TREE, "<< /Type /Page /Parent 2 0 R /MediaBox " + box + " >>", "null");
            House x = Checks.loads("one above " + box, file(Files.CATALOG, TREE.replace("/Count", "/MediaBox [ 1 2 3 4 ] /Count"),
                    "<< /Type /Page /Parent 2 0 R /MediaBox " + box + " >>", "null"), 1);
            Checks.due("its part, above " + box, x.page(0, 4), 4 * 65536);
        }
    }

    private static void rotates() {
        for (int rotate : new int[] {0, 90, -90, 180, 270, 360, 450, 2147483580, -2147483640 + 60, -90 * 20000000}) {
            if (rotate % 90 == 0) {
                Checks.due("Rotate " + rotate, loads("Rotate " + rotate, PAGE.replace(" >>", " /Rotate " + rotate + " >>")).page(0, 5), rotate);
            }
        }
        for (String rotate : new String[] {"1", "-1", "89", "91", "-89", "45", "2147483647", "-2147483648", "90.0", "0.0", "/A", "(90)", "true", "[ 90 ]",
            "<< >>", "2 0 R"}) {
            wrong("Rotate " + rotate, 3, Files.CATALOG, TREE, PAGE.replace(" >>", " /Rotate " + rotate + " >>"));
            wrong("a node's Rotate " + rotate, 2, Files.CATALOG, TREE.replace("/Count", "/Rotate " + rotate + " /Count"), PAGE);
        }
        for (String rotate : new String[] {"null", "9 0 R", "4 0 R", "2 1 R"}) {
            Checks.due("Rotate " + rotate, loads("Rotate " + rotate, PAGE.replace(" >>", " /Rotate " + rotate + " >>"), "null").page(0, 5), 0);
            Checks.due("Rotate above " + rotate, Checks.loads("above", file(Files.CATALOG, TREE.replace("/Count", "/Rotate -90 /Count"),
                    PAGE.replace(" >>", " /Rotate " + rotate + " >>"), "null"), 1).page(0, 5), -90);
        }
        Checks.due("its own 0 is one", Checks.loads("own", file(Files.CATALOG, TREE.replace("/Count", "/Rotate 90 /Count"),
                PAGE.replace(" >>", " /Rotate 0 >>")), 1).page(0, 5), 0);
    }

    private static void resources() {
        for (String entry : new String[] {"<< >>", "null", "9 0 R", "2 0 R", "4 0 R"}) {
            loads("Resources " + entry, PAGE.replace(" >>", " /Resources " + entry + " >>"), "null");
        }
        for (String entry : new String[] {"[ ]", "5", "(x)", "/A", "true", "4 0 R", "5 0 R"}) {
            Files files = new Files().object(1, Files.CATALOG).object(2, TREE).object(3, PAGE.replace(" >>", " /Resources " + entry + " >>"))
                    .stream(4, "", "").object(5, "4 0 R");
            Checks.refuses("Resources " + entry, files.table("/Root 1 0 R"), 10, 3);
            Files above = new Files().object(1, Files.CATALOG).object(2, TREE.replace("/Count", "/Resources " + entry + " /Count")).object(3, PAGE)
                    .stream(4, "", "").object(5, "4 0 R");
            Checks.refuses("a node's Resources " + entry, above.table("/Root 1 0 R"), 10, 2);
        }
    }

    private static void contentsOfOtherForms() {
        for (String entry : new String[] {"5", "/A", "true", "1.5", "<< /Length 0 >>", "[ 5 ]", "[ (x) ]", "[ 4 0 R 4 1 R ]", "[ 4 0 R [ 5 0 R ] ]",
            "[ 4 0 R null 5 0 R ]", "[ << >> ]", "2 0 R", "[ 4 0 R 2 0 R ]", "[ 1 0 R 4 0 R ]"}) {
            Checks.refuses("Contents " + entry, contentsFile(entry), 10, 3);
        }
        for (String entry : new String[] {"null", "99 0 R", "4 1 R"}) {
            Checks.due("Contents " + entry, withContents("Contents " + entry, entry).page(0, 6), 0);
        }
        Checks.due("two empty ones", withContents("two empty ones", "[ 5 0 R 5 0 R ]").page(0, 6), 1);
        Checks.due("one of one", withContents("one of one", "[ 6 0 R ]").page(0, 6), 3);
    }

    private static void counts() {
        for (String count : new String[] {"0", "2", "-1", "null", "1.0", "(1)", "9 0 R", "2 0 R", "[ 1 ]", "true"}) {
            wrong("Count " + count, 2, Files.CATALOG, TREE.replace("/Count 1", "/Count " + count), PAGE);
        }
        String nodes = "<< /Type /Pages /Kids [ 4 0 R 3 0 R ] /Count 2 >>";
        String four = "<< /Type /Pages /Parent 2 0 R /Kids [ 5 0 R ] /Count 1 >>";
        String five = PAGE.replace("2 0 R", "4 0 R");
        Checks.loads("a sum", file(Files.CATALOG, nodes, PAGE, four, five), 2);
        wrong("of both", 2, Files.CATALOG, nodes.replace("Count 2", "Count 1"), PAGE, four, five);
        wrong("the lower first", 4, Files.CATALOG, nodes.replace("Count 2", "Count 1"), PAGE, four.replace("Count 1", "Count 2"), five);
        wrong("the lower ahead of the next", 4, Files.CATALOG, nodes, "<< /Type /Page >>", four.replace("Count 1", "Count 0"), five);
    }

    /** What is looked at first is told: the places and faults differ. */
    private static void whatGoesAhead() {
        String four = "<< /Type /Pages /Parent 2 0 R /Kids [ 9 0 R ] /Count 7 >>";
        wrong("a node's Rotate ahead of its kids", 2, Files.CATALOG, TREE.replace("/Count", "/Rotate 1 /Count").replace("3 0 R", "5"), PAGE);
        wrong("a node's MediaBox ahead of its kids", 2, Files.CATALOG, TREE.replace("/Count", "/MediaBox 1 /Count"), "<< >>");
        wrong("a node's Resources ahead of its kids", 2, Files.CATALOG, TREE.replace("/Count", "/Resources 1 /Count"), "<< >>");
        wrong("a node's Parent ahead of its kids", 4, Files.CATALOG, TREE.replace("3 0 R", "4 0 R"), PAGE, four.replace("/Parent 2 0 R", ""));
        wrong("the first kid ahead of the second", 3, Files.CATALOG, TREE.replace("3 0 R", "3 0 R 4 0 R"), "<< >>", four);
        wrong("the second ahead of what is no kid", 4, Files.CATALOG, TREE.replace("3 0 R", "3 0 R 4 0 R 5"), PAGE, four);
        wrong("a kid ahead of what is none", 3, Files.CATALOG, TREE.replace("3 0 R", "3 0 R 5"), "<< >>");
        wrong("what is none ahead of a kid", 2, Files.CATALOG, TREE.replace("3 0 R", "5 3 0 R"), "<< >>");
        wrong("Root ahead of the tree", 1, Files.CATALOG.replace("/Catalog", "/C"), "<< >>", PAGE);
        String zeros = Files.deflated(Files.repeat(" ", 8000));
        for (String own : new String[] {"/Rotate 1 ", "/MediaBox 5 ", "/Resources 5 ", "/Parent 1 0 R ", "/Type /Pag "}) {
            String page = PAGE.replace(own.substring(0, own.indexOf(' ')) + " ", "/Other ").replace(" >>",
                    " " + own + "/Contents [ 4 0 R 4 0 R 4 0 R 4 0 R 4 0 R 4 0 R ] >>");
            Checks.refuses(own + "ahead of 40000", new Files().object(1, Files.CATALOG).object(2, TREE).object(3, page)
                    .stream(4, "/Filter /FlateDecode", zeros).table("/Root 1 0 R"), 10, 3);
        }
        String page = "<< /Type /Page /Parent 2 0 R /Contents [ 4 0 R 4 0 R 4 0 R 4 0 R 4 0 R 4 0 R ] >>";
        Checks.refuses("no MediaBox ahead of 40000", new Files().object(1, Files.CATALOG).object(2, TREE).object(3, page)
                .stream(4, "/Filter /FlateDecode", zeros).table("/Root 1 0 R"), 10, 3);
        Checks.refuses("what is no stream ahead of 40000", new Files().object(1, Files.CATALOG).object(2, TREE)
                .object(3, page.replace("] >>", "5 ] /MediaBox [ 0 0 1 1 ] >>")).stream(4, "/Filter /FlateDecode", zeros).table("/Root 1 0 R"), 10, 3);
    }

    /** A tree of 61 pages, the last of which is that one. */
    private static String sixtyOne(String last) {
        StringBuilder kids = new StringBuilder();
        Files files = new Files().object(1, Files.CATALOG);
        for (int n = 3; n < 64; n++) {
            kids.append(n).append(" 0 R ");
            files.object(n, n == 63 ? last : "<</Type/Page/Parent 2 0 R/MediaBox 70 0 R>>");
        }
        return files.object(70, "[ 0 0 1 1 ]").object(2, "<< /Type /Pages /Count 61 /Kids [ " + kids + "] >>").table("/Root 1 0 R");
    }

    private static void theSixtyFirst() {
        Checks.refuses("the 61st", sixtyOne("<</Type/Page/Parent 2 0 R/MediaBox 70 0 R>>"), 5, 63);
        Checks.refuses("its Type goes ahead", sixtyOne("<</Type/Pag/Parent 2 0 R/MediaBox 70 0 R>>"), 10, 63);
        Checks.refuses("its Parent", sixtyOne("<</Type/Page/Parent 3 0 R/MediaBox 70 0 R>>"), 10, 63);
        Checks.refuses("its MediaBox", sixtyOne("<</Type/Page/Parent 2 0 R>>"), 10, 63);
        Checks.refuses("its Rotate", sixtyOne("<</Type/Page/Parent 2 0 R/MediaBox 70 0 R/Rotate 1>>"), 10, 63);
        Checks.refuses("its Contents", sixtyOne("<</Type/Page/Parent 2 0 R/MediaBox 70 0 R/Contents 70 0 R>>"), 10, 63);
        Checks.refuses("no dict", sixtyOne("5"), 10, 2);
        Checks.refuses("a node of none is no page", sixtyOne("<</Type/Pages/Parent 2 0 R/Kids[]/Count 0>>"), 10, 2);
    }

    private static void infosOfOtherForms() {
        for (String info : new String[] {"null", "5", "(x)", "[ ]", "<< >>", "/A", "9 0 R", "1 1 R", "3 0 R", "4 0 R", "5 0 R"}) {
            Checks.refuses("Info " + info, Files.empty().object(3, "[ ]").stream(4, "", "").object(5, "null").table("/Root 1 0 R /Info " + info), 10, 0);
        }
        Checks.due("Info through a row", Checks.loads("Info through a row", Files.empty().object(3, "4 0 R").object(4, "<< >>")
                .table("/Root 1 0 R /Info 3 0 R"), 0).count(2), 4);
        Checks.refuses("60 pages go ahead of it", sixtyOne("<</Type/Page/Parent 2 0 R/MediaBox 70 0 R>>").replace("/Root 1 0 R", "/Info 7 /Root 1 0 R"), 5, 63);
    }

    private static void whatPagesAnswer() {
        House x = loads("a page", PAGE.replace(" >>", " /Rotate 90 >>"));
        for (int k : new int[] {-2147483648, -1, 1, 2, 59, 60, 2147483647}) {
            for (int what = -1; what <= 7; what++) {
                Checks.due("page(" + k + ", " + what + ")", x.page(k, what), 0);
            }
        }
        int[] want = {3, 0, 0, 655360, 1310720, 90, 0};
        for (int what = 0; what < 7; what++) {
            Checks.due("page(0, " + what + ")", x.page(0, what), want[what]);
        }
        for (int what : new int[] {-2147483648, -1, 7, 8, 2147483647}) {
            Checks.due("page(0, " + what + ")", x.page(0, what), 0);
        }
    }
}
