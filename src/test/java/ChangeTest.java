/** Promises 14 and 19 to 24: changes. */
public final class ChangeTest {
    public static void main(String[] args) {
        inserts();
        insertsRefused();
        deletes();
        moves();
        takesOver();
        turns();
        contents();
        infos();
        newNumbers();
        kidsElsewhere();
        deepKids();
        manyMoves();
        theCursorGoes();
        edgesOfInsert();
        edgesOfDelete();
        edgesOfMove();
        edgesOfTurn();
        edgesOfContents();
        edgesOfInfo();
        whereTheyGo();
        wherePagesAreTaken();
        countsAbove();
        takenOver();
        numbersOfNewOnes();
        newOnesAreOfGeneration0();
        manyChanges();
        fullOfNumbers();
        fullOfPages();
        insideAStream();
        infoInsideAStream();
        referencesStay();
        changesAreForgotten();
        Checks.end();
    }

    private static House paged() {
        return Checks.loads("one page", Files.paged().table("/Root 1 0 R"), 1);
    }

    /** How object n would be written, told by what MORE puts behind the file. */
    static String written(House x, int n) {
        x.more();
        String all = "\n" + Files.out(x);
        int at = all.lastIndexOf("\n" + n + " 0 obj\n");
        if (at < 0) {
            return "";
        }
        String begun = all.substring(at + ("\n" + n + " 0 obj\n").length());
        return begun.substring(0, begun.indexOf("\nendobj"));
    }

    private static String pages(House x) {
        StringBuilder all = new StringBuilder();
        for (int k = 0; k < x.pages(); k++) {
            all.append(x.page(k, 0)).append(' ');
        }
        return all.toString();
    }

    private static void inserts() {
        House x = paged();
        Checks.due("insert ahead", x.insert(0, 1, 2), 4);
        Checks.due("insert behind", x.insert(2, 14400, 14400), 5);
        Checks.due("insert between", x.insert(1, 3, 4), 6);
        Checks.due("pages", pages(x), "4 6 3 5 ");
        Checks.due("pages()", x.pages(), 4);
        Checks.due("box", x.page(3, 4), 14400 * 65536);
        Checks.due("Size", x.count(0), 7);
        Checks.due("changed", x.count(6), 4);
        Checks.due("objects", x.objects(), 6);
        Checks.due("the new page", written(x, 6), "<< /Type /Page /Parent 2 0 R /MediaBox [ 0 0 3 4 ] >>");
        Checks.due("the node", written(x, 2), "<< /Type /Pages /Kids [ 4 0 R 6 0 R 3 0 R 5 0 R ] /Count 4 >>");
        House empty = Checks.loads("no pages", Files.empty().table("/Root 1 0 R"), 0);
        Checks.due("insert into none", empty.insert(0, 5, 6), 3);
        Checks.due("the page there", empty.page(0, 3), 5 * 65536);
        Checks.due("its node", written(empty, 2), "<< /Type /Pages /Kids [ 3 0 R ] /Count 1 >>");
    }

    private static void insertsRefused() {
        House x = paged();
        Checks.due("k below", x.insert(-1, 1, 1), -1);
        Checks.due("k beyond", x.insert(2, 1, 1), -1);
        Checks.due("w 0", x.insert(0, 0, 1), -1);
        Checks.due("w 14401", x.insert(0, 14401, 1), -1);
        Checks.due("h 0", x.insert(0, 1, 0), -1);
        Checks.due("h 14401", x.insert(0, 1, 14401), -1);
        Checks.due("nothing changed", x.count(6), 0);
        for (int i = 1; i < 60; i++) {
            Checks.due("insert " + i, x.insert(i, 1, 1), i + 3);
        }
        Checks.due("61 pages", x.insert(0, 1, 1), -1);
        Checks.due("60 pages", x.pages(), 60);
        House full = Checks.loads("Size 199", Files.paged().table("/Root 1 0 R", 199), 1);
        Checks.due("object 199", full.insert(0, 1, 1), 199);
        Checks.due("Size is 200", full.count(0), 200);
        Checks.due("Size would be 201", full.insert(0, 1, 1), -1);
        Checks.due("contents likewise", Files.contents(full, 0, "x"), -1);
        Checks.due("info likewise", Files.info(full, 0, "x"), -1);
    }

    private static void deletes() {
        House x = paged();
        Checks.due("none such", x.delete(1), -1);
        Checks.due("none such below", x.delete(-1), -1);
        x.insert(1, 1, 1);
        Checks.due("delete", x.delete(0), 1);
        Checks.due("left", pages(x), "4 ");
        Checks.due("the node", written(x, 2), "<< /Type /Pages /Kids [ 4 0 R ] /Count 1 >>");
        Checks.due("the page is no change", x.count(6), 2);
        Checks.due("it is an object still", x.go(3), 7);
        Checks.due("delete the last", x.delete(0), 0);
        Checks.due("the node has none", written(x, 2), "<< /Type /Pages /Kids [ ] /Count 0 >>");
        Checks.due("insert again", x.insert(0, 9, 9), 5);
        Checks.due("the node has it", written(x, 2), "<< /Type /Pages /Kids [ 5 0 R ] /Count 1 >>");
    }

    private static House two() {
        return Checks.loads("two nodes", new Files().object(1, Files.CATALOG)
                .object(2, "<< /Type /Pages /Kids [ 3 0 R 4 0 R ] /Count 4 /MediaBox [ 0 0 9 9 ] /Rotate 90 >>")
                .object(3, "<< /Type /Pages /Parent 2 0 R /Kids [ 5 0 R 6 0 R ] /Count 2 /Resources << /A [ 1 ] >> /Rotate 8 0 R >>")
                .object(4, "<< /Type /Pages /Parent 2 0 R /Kids [ 7 0 R 9 0 R ] /Count 2 >>")
                .object(5, "<< /Type /Page /Parent 3 0 R >>").object(6, "<< /Type /Page /MediaBox null /Parent 3 0 R >>")
                .object(7, "<< /Type /Page /Parent 4 0 R >>").object(8, "180")
                .object(9, "<< /Type /Page /Parent 4 0 R /Rotate 0 /Resources << >> /MediaBox [ 0 0 1 1 ] >>")
                .table("/Root 1 0 R"), 4);
    }

    private static void moves() {
        House x = two();
        Checks.due("none such", x.move(4, 0), -1);
        Checks.due("to below", x.move(0, -1), -1);
        Checks.due("to beyond", x.move(0, 4), -1);
        Checks.due("nothing changed", x.count(6), 0);
        Checks.due("move", x.move(0, 2), 5);
        Checks.due("pages", pages(x), "6 7 5 9 ");
        Checks.due("changed", x.count(6), 4);
        Checks.due("the elder node", written(x, 3), "<< /Type /Pages /Parent 2 0 R /Kids [ 6 0 R ] /Count 1 /Resources << /A [ 1 ] >> /Rotate 8 0 R >>");
        Checks.due("the other node", written(x, 4), "<< /Type /Pages /Parent 2 0 R /Kids [ 7 0 R 5 0 R 9 0 R ] /Count 3 >>");
        Checks.due("above both", written(x, 2), "<< /Type /Pages /Kids [ 3 0 R 4 0 R ] /Count 4 /MediaBox [ 0 0 9 9 ] /Rotate 90 >>");
        Checks.due("move to the end", x.move(0, 3), 6);
        Checks.due("pages then", pages(x), "7 5 9 6 ");
        Checks.due("a node of none", written(x, 3), "<< /Type /Pages /Parent 2 0 R /Kids [ ] /Count 0 /Resources << /A [ 1 ] >> /Rotate 8 0 R >>");
        Checks.due("move nowhere else", x.move(1, 1), 5);
        Checks.due("pages still", pages(x), "7 5 9 6 ");
        House one = paged();
        Checks.due("the only page", one.move(0, 0), 3);
        Checks.due("it is there", pages(one), "3 ");
        Checks.due("it is changed", one.count(6), 2);
    }

    private static void takesOver() {
        House x = two();
        x.move(0, 3);
        Checks.due("of two above", written(x, 5),
                "<< /Type /Page /Parent 4 0 R /MediaBox [ 0 0 9 9 ] /Resources << /A [ 1 ] >> /Rotate 8 0 R >>");
        x.move(0, 3);
        Checks.due("where null stands", written(x, 6),
                "<< /Type /Page /MediaBox [ 0 0 9 9 ] /Parent 4 0 R /Resources << /A [ 1 ] >> /Rotate 8 0 R >>");
        x.move(1, 0);
        Checks.due("of its own", written(x, 9),
                "<< /Type /Page /Parent 4 0 R /Rotate 0 /Resources << >> /MediaBox [ 0 0 1 1 ] >>");
        Checks.due("Rotate stays", x.page(3, 5), 180);
        Checks.due("turn it", x.turn(3, -90), true);
        Checks.due("it alone", x.page(3, 5), -90);
        Checks.due("the others not", x.page(2, 5), 180);
    }

    private static void turns() {
        House x = two();
        Checks.due("none such", x.turn(4, 90), false);
        Checks.due("45", x.turn(0, 45), false);
        Checks.due("450", x.turn(0, 450), false);
        Checks.due("-450", x.turn(0, -450), false);
        Checks.due("nothing changed", x.count(6), 0);
        for (int degrees = -360; degrees <= 360; degrees += 90) {
            Checks.due("turn " + degrees, x.turn(0, degrees), true);
            Checks.due("turned " + degrees, x.page(0, 5), degrees);
        }
        Checks.due("one changed", x.count(6), 1);
        Checks.due("it comes last", written(x, 5), "<< /Type /Page /Parent 3 0 R /Rotate 360 >>");
        x.turn(3, -360);
        Checks.due("it stays in its place", written(x, 9),
                "<< /Type /Page /Parent 4 0 R /Rotate -360 /Resources << >> /MediaBox [ 0 0 1 1 ] >>");
    }

    private static void contents() {
        House x = paged();
        Checks.due("none such", Files.contents(x, 1, "x"), -1);
        Checks.due("contents", Files.contents(x, 0, "1 2 m"), 4);
        Checks.due("bytes", x.page(0, 6), 5);
        Checks.due("a stream", x.go(4), 9);
        Checks.due("of no entries", x.here(2), 0);
        Checks.due("its bytes", Files.data(x, 4), "1 2 m");
        Checks.due("the page", written(x, 3), Files.PAGE.replace(" >>", " /Contents 4 0 R >>"));
        Checks.due("empty contents", Files.contents(x, 0, ""), 5);
        Checks.due("their bytes", x.size(5), 0);
        Checks.due("changed", x.count(6), 3);
        House many = Checks.loads("39000 bytes", Files.streamed(39000), 1);
        Checks.due("too many together", Files.contents(many, 0, Files.repeat("x", 1001)), -1);
        Checks.due("just 40000", Files.contents(many, 0, Files.repeat("x", 1000)), 9);
        Checks.due("none more", Files.contents(many, 0, "x"), -1);
        Checks.due("but empty ones", Files.contents(many, 0, ""), 10);
    }

    private static void infos() {
        House x = paged();
        Checks.due("no Info", x.count(2), 0);
        Checks.due("another number", Files.info(x, 4, "x"), -1);
        Checks.due("below", Files.info(x, -1, "x"), -1);
        Checks.due("more bytes", Files.info(x, 0, Files.repeat("x", 2001)), -1);
        Checks.due("nothing changed", x.count(6), 0);
        Checks.due("Subject", Files.info(x, 2, "s(b)"), 4);
        Checks.due("Info's number", x.count(2), 4);
        Checks.due("Title", Files.info(x, 0, Files.repeat("t", 2000)), 4);
        Checks.due("Title again", Files.info(x, 0, "short"), 4);
        Checks.due("Author", Files.info(x, 1, "\u00ff"), 4);
        Checks.due("Keywords", Files.info(x, 3, ""), 4);
        Checks.due("Info", written(x, 4), "<< /Subject <73286229> /Title (short) /Author <FF> /Keywords () >>");
        Checks.due("one changed", x.count(6), 1);
        House y = Checks.loads("Info", Files.paged().object(4, "<< /Title 5 0 R /X 1 >>").object(5, "(old)")
                .table("/Root 1 0 R /Info 4 0 R"), 1);
        Checks.due("Title there", Files.info(y, 0, "new"), 4);
        Checks.due("Info then", written(y, 4), "<< /Title (new) /X 1 >>");
        Checks.due("it is changed", y.count(6), 1);
        House z = Checks.loads("Info is Root", Files.paged().table("/Root 1 0 R /Info 1 0 R"), 1);
        Checks.due("Author of Root", Files.info(z, 1, "me"), 1);
        Checks.due("Root then", written(z, 1), "<< /Type /Catalog /Pages 2 0 R /Author (me) >>");
    }

    private static void newNumbers() {
        House x = Checks.loads("named numbers", Files.paged().object(4, "[ 6 7 R << /A 8 0 R >> ]")
                .stream(5, "/B 10 0 R", "").table("/Root 1 0 R /X [ 9 3 R ]"), 1);
        Checks.due("7", x.insert(0, 1, 1), 7);
        Checks.due("objects", x.objects(), 6);
        Checks.due("6 is free", x.go(6), -1);
        Checks.due("11", Files.contents(x, 0, ""), 11);
        Checks.due("Size", x.count(0), 12);
        Checks.due("12", Files.info(x, 0, ""), 12);
        Files elder = Files.paged().object(4, "5 0 R");
        int first = elder.section("/Size 5 /Root 1 0 R /X 6 0 R");
        elder.raw("xref\n4 1\n0000000000 65535 f \ntrailer << /Size 5 /Root 1 0 R /Prev " + first + " >>\n");
        int newest = elder.length() - ("xref\n4 1\n0000000000 65535 f \ntrailer << /Size 5 /Root 1 0 R /Prev " + first + " >>\n").length();
        House y = Checks.loads("an elder trailer", elder.end(newest), 1);
        Checks.due("neither of a free object nor of an elder trailer", y.insert(0, 1, 1), 5);
        Checks.due("nor then", y.insert(0, 1, 1), 6);
    }

    private static void kidsElsewhere() {
        Files files = new Files().object(1, Files.CATALOG).object(2, "<< /Kids 4 0 R /Type /Pages /Count 6 0 R >>")
                .object(3, "<< /Type /Page /Parent 7 0 R /MediaBox [ 0 0 1 1 ] >>").object(4, "5 0 R").object(5, "[ 8 0 R ]")
                .object(6, "1").object(7, "2 0 R").object(8, "3 0 R");
        House x = Checks.loads("kids elsewhere", files.table("/Root 1 0 R"), 1);
        Checks.due("insert", x.insert(1, 1, 1), 9);
        Checks.due("the node", written(x, 2), "<< /Kids [ 8 0 R 9 0 R ] /Type /Pages /Count 2 >>");
        x.go(5);
        Checks.due("the array stays", x.here(2), 1);
        x.go(6);
        Checks.due("the whole stays", x.here(1), 1);
        Checks.due("two are changed", x.count(6), 2);
        Checks.due("move", x.move(0, 1), 3);
        Checks.due("the node then", written(x, 2), "<< /Kids [ 9 0 R 3 0 R ] /Type /Pages /Count 2 >>");
        Checks.due("the page", written(x, 3), "<< /Type /Page /Parent 2 0 R /MediaBox [ 0 0 1 1 ] >>");
        for (int k = 0; k <= 3; k++) {
            House y = Checks.loads("three kids elsewhere", new Files().object(1, Files.CATALOG).object(2, "<< /Type /Pages /Kids 6 0 R /Count 3 >>")
                    .object(3, Files.PAGE).object(4, Files.PAGE).object(5, Files.PAGE).object(6, "[ 3 0 R 4 0 R 7 0 R ]").object(7, "5 0 R")
                    .table("/Root 1 0 R"), 3);
            StringBuilder want = new StringBuilder("3 0 R 4 0 R 7 0 R ");
            Checks.due("insert " + k, y.insert(k, 1, 1), 8);
            Checks.due("three and one", written(y, 2), "<< /Type /Pages /Kids [ " + want.insert(6 * k, "8 0 R ") + "] /Count 4 >>");
            y.delete(3 - k);
            want.delete(18 - 6 * k, 24 - 6 * k);
            Checks.due("one taken out", written(y, 2), "<< /Type /Pages /Kids [ " + want + "] /Count 3 >>");
            Checks.due("go", y.go(6), 6);
            Checks.due("the array stays", y.here(2), 3);
        }
    }

    private static void deepKids() {
        House x = Checks.loads("deep", new Files().object(1, Files.CATALOG)
                .object(2, "<< /Type /Pages /Kids [ 3 0 R 5 0 R ] /Count 7 0 R >>")
                .object(3, "<< /Type /Pages /Parent 2 0 R /Kids [ 4 0 R ] /Count 7 0 R >>")
                .object(4, "<< /Type /Page /Parent 3 0 R /MediaBox [ 0 0 1 1 ] >>")
                .object(5, "<< /Type /Pages /Parent 2 0 R /Kids 6 0 R /Count 0 >>").object(6, "[ ]").object(7, "1")
                .table("/Root 1 0 R"), 1);
        Checks.due("behind the last page", x.insert(1, 1, 1), 8);
        Checks.due("into its node", written(x, 3), "<< /Type /Pages /Parent 2 0 R /Kids [ 4 0 R 8 0 R ] /Count 2 >>");
        Checks.due("and above", written(x, 2), "<< /Type /Pages /Kids [ 3 0 R 5 0 R ] /Count 2 >>");
        x.delete(0);
        x.delete(0);
        Checks.due("without pages into the first node", x.insert(0, 1, 1), 9);
        Checks.due("last", written(x, 2), "<< /Type /Pages /Kids [ 3 0 R 5 0 R 9 0 R ] /Count 1 >>");
        Checks.due("its parent", written(x, 9), "<< /Type /Page /Parent 2 0 R /MediaBox [ 0 0 1 1 ] >>");
    }

    private static void manyMoves() {
        House x = two();
        for (int i = 0; i < 400; i++) {
            Checks.due("move " + i, x.move(i % 4, (i * 7 + 1) % 4) > 0, true);
        }
        Checks.due("all are there", x.pages(), 4);
        x.whole();
        x.take();
        Checks.due("it is a document", x.load(), 4);
    }

    private static void theCursorGoes() {
        House x = paged();
        x.go(1);
        x.insert(5, 1, 1);
        x.turn(0, 1);
        x.delete(9);
        x.move(0, 9);
        Files.info(x, 9, "");
        Files.contents(x, 9, "");
        x.whole();
        x.more();
        Checks.due("refused: it stays", x.here(0), 7);
        x.insert(0, 1, 1);
        Checks.due("insert", x.here(0), -1);
        x.go(1);
        x.turn(0, 90);
        Checks.due("turn", x.here(0), -1);
        x.go(1);
        x.move(0, 1);
        Checks.due("move", x.here(0), -1);
        x.go(1);
        x.delete(0);
        Checks.due("delete", x.here(0), -1);
        x.go(1);
        Files.contents(x, 0, "");
        Checks.due("contents", x.here(0), -1);
        x.go(1);
        Files.info(x, 0, "");
        Checks.due("info", x.here(0), -1);
    }

    private static final int[] FAR = {-2147483648, -1000000, -1, 1000000, 2147483647};

    private static void edgesOfInsert() {
        for (int k = -2; k <= 4; k++) {
            House x = Checks.loads("two pages", twoPages(), 2);
            boolean good = k >= 0 && k <= 2;
            Checks.due("insert at " + k, x.insert(k, 1, 1), good ? 5 : -1);
            Checks.due("pages then", x.pages(), good ? 3 : 2);
            Checks.due("changed then", x.count(6), good ? 2 : 0);
            if (good) {
                Checks.due("it is page " + k, x.page(k, 0), 5);
            }
        }
        House x = Checks.loads("two pages", twoPages(), 2);
        for (int far : FAR) {
            Checks.due("k " + far, x.insert(far, 1, 1), -1);
            Checks.due("w " + far, x.insert(0, far, 1), -1);
            Checks.due("h " + far, x.insert(0, 1, far), -1);
        }
        for (int side = -1; side <= 1; side++) {
            Checks.due("w " + side, x.insert(0, side, 1) >= 0, side == 1);
            Checks.due("h " + side, x.insert(0, 1, side) >= 0, side == 1);
            Checks.due("w " + (14400 + side), x.insert(0, 14400 + side, 14400) >= 0, side <= 0);
            Checks.due("h " + (14400 + side), x.insert(0, 14400, 14400 + side) >= 0, side <= 0);
        }
    }

    private static String twoPages() {
        return new Files().object(1, Files.CATALOG).object(2, "<< /Type /Pages /Kids [ 3 0 R 4 0 R ] /Count 2 >>").object(3, Files.PAGE)
                .object(4, Files.PAGE).table("/Root 1 0 R");
    }

    private static void edgesOfDelete() {
        for (int k = -1; k <= 3; k++) {
            House x = Checks.loads("two pages", twoPages(), 2);
            boolean good = k >= 0 && k < 2;
            Checks.due("delete " + k, x.delete(k), good ? 1 : -1);
            Checks.due("left", pages(x), good ? k == 0 ? "4 " : "3 " : "3 4 ");
            Checks.due("changed", x.count(6), good ? 1 : 0);
        }
        House x = Checks.loads("two pages", twoPages(), 2);
        for (int far : FAR) {
            Checks.due("delete " + far, x.delete(far), -1);
        }
        x.delete(0);
        x.delete(0);
        Checks.due("of none", x.delete(0), -1);
    }

    private static void edgesOfMove() {
        for (int k = -1; k <= 2; k++) {
            for (int to = -1; to <= 3; to++) {
                House x = Checks.loads("two pages", twoPages(), 2);
                boolean good = k >= 0 && k < 2 && to >= 0 && to <= 1;
                Checks.due("move " + k + " to " + to, x.move(k, to), good ? 3 + k : -1);
                Checks.due("pages", pages(x), good && k != to ? "4 3 " : "3 4 ");
                Checks.due("changed", x.count(6), good ? 2 : 0);
            }
        }
        House x = Checks.loads("two pages", twoPages(), 2);
        for (int far : FAR) {
            Checks.due("move " + far, x.move(far, 0), -1);
            Checks.due("move to " + far, x.move(0, far), -1);
        }
        House none = Checks.loads("no pages", Files.empty().table("/Root 1 0 R"), 0);
        Checks.due("move of none", none.move(0, 0), -1);
        Checks.due("delete of none", none.delete(0), -1);
        Checks.due("turn of none", none.turn(0, 90), false);
        Checks.due("contents of none", Files.contents(none, 0, ""), -1);
    }

    private static void edgesOfTurn() {
        House x = Checks.loads("two pages", twoPages(), 2);
        for (int degrees = -460; degrees <= 460; degrees++) {
            boolean good = degrees % 90 == 0 && degrees >= -360 && degrees <= 360;
            int before = x.page(1, 5);
            Checks.due("turn " + degrees, x.turn(1, degrees), good);
            Checks.due("Rotate behind " + degrees, x.page(1, 5), good ? degrees : before);
        }
        for (int far : new int[] {-2147483648, -2147483640, -900, -450, 450, 720, 2147483640, 2147483647}) {
            Checks.due("turn " + far, x.turn(0, far), false);
        }
        for (int k : new int[] {-2147483648, -1, 2, 2147483647}) {
            Checks.due("turn page " + k, x.turn(k, 90), false);
        }
        Checks.due("the other one is not turned", x.page(0, 5), 0);
        Checks.due("one is changed", x.count(6), 1);
        House y = Checks.loads("Rotate by reference", new Files().object(1, Files.CATALOG).object(2, Files.ONE_PAGE)
                .object(3, "<< /Type /Page /Rotate 4 0 R /Parent 2 0 R /MediaBox [ 0 0 1 1 ] >>").object(4, "90").table("/Root 1 0 R"), 1);
        Checks.due("turn", y.turn(0, 0), true);
        Checks.due("in its place", written(y, 3), "<< /Type /Page /Rotate 0 /Parent 2 0 R /MediaBox [ 0 0 1 1 ] >>");
        y.go(4);
        Checks.due("the whole stays", y.here(1), 90);
    }

    private static void edgesOfContents() {
        House x = Checks.loads("two pages", twoPages(), 2);
        for (int k : new int[] {-2147483648, -1, 2, 2147483647}) {
            Checks.due("contents of " + k, Files.contents(x, k, "x"), -1);
            Checks.due("the tape is used up", x.cut(1), -1);
        }
        Checks.due("nothing changed", x.count(6), 0);
        Checks.due("8000 bytes", Files.contents(x, 1, Files.noise(8000, 3)), 5);
        Checks.due("they are there", Files.data(x, 5), Files.noise(8000, 3));
        Checks.due("the tape is used up", x.cut(1), -1);
        Checks.due("page 1 has them", x.page(1, 6), 8000);
        Checks.due("page 0 has not", x.page(0, 6), 0);
        Checks.due("no entries", x.go(5) * 100 + x.here(2), 900);
        House y = Checks.loads("contents there", new Files().object(1, Files.CATALOG).object(2, Files.ONE_PAGE)
                .object(3, "<< /Contents [ 4 0 R 4 0 R ] /Type /Page /Parent 2 0 R /MediaBox [ 0 0 1 1 ] >>").stream(4, "", "abc").table("/Root 1 0 R"), 1);
        Checks.due("bytes before", y.page(0, 6), 7);
        Checks.due("contents", Files.contents(y, 0, "S"), 5);
        Checks.due("bytes then", y.page(0, 6), 1);
        Checks.due("in their place", written(y, 3), "<< /Contents 5 0 R /Type /Page /Parent 2 0 R /MediaBox [ 0 0 1 1 ] >>");
        Checks.due("the stream stays", y.size(4), 3);
        Checks.due("two are changed", y.count(6), 2);
        // Streams that no page has any more count among the 40000.
        House many = Checks.loads("39900 bytes", Files.streamed(39900), 1);
        Checks.due("50 more", Files.contents(many, 0, Files.repeat("x", 50)), 9);
        Checks.due("48 more", Files.contents(many, 0, Files.repeat("x", 48)), 10);
        Checks.due("3 are too many", Files.contents(many, 0, "xxx"), -1);
        Checks.due("changed as before", many.count(6), 3);
        Checks.due("2 are not", Files.contents(many, 0, "xx"), 11);
        Checks.due("one is too many", Files.contents(many, 0, "x"), -1);
        Checks.due("none is not", Files.contents(many, 0, ""), 12);
        House whole = Checks.loads("40000 bytes", Files.streamed(40000), 1);
        Checks.due("not one", Files.contents(whole, 0, "x"), -1);
        Checks.due("but none", Files.contents(whole, 0, ""), 9);
        House half = Checks.loads("32000 bytes", Files.streamed(32000), 1);
        Checks.due("8000 at once", Files.contents(half, 0, Files.repeat("x", 8000)), 8);
        House less = Checks.loads("32001 bytes", Files.streamed(32001), 1);
        Checks.due("not 8000 at once", Files.contents(less, 0, Files.repeat("x", 8000)), -1);
    }

    private static void edgesOfInfo() {
        for (int which : new int[] {-2147483648, -1, 4, 5, 2147483647}) {
            House x = Checks.loads("two pages", twoPages(), 2);
            Checks.due("info " + which, Files.info(x, which, "x"), -1);
            Checks.due("the tape is used up", x.cut(1), -1);
            Checks.due("nothing is there", x.count(2) + x.count(6), 0);
        }
        String[] names = {"Title", "Author", "Subject", "Keywords"};
        for (int which = 0; which < 4; which++) {
            for (int many = 1999; many <= 2002; many++) {
                House x = Checks.loads("two pages", twoPages(), 2);
                boolean good = many <= 2000;
                Checks.due(names[which] + " of " + many, Files.info(x, which, Files.repeat("x", many)), good ? 5 : -1);
                Checks.due("the tape is used up", x.cut(1), -1);
                Checks.due("Info", x.count(2), good ? 5 : 0);
                Checks.due("Size", x.count(0), good ? 6 : 5);
                if (good) {
                    Checks.due("its kind", x.go(5), 7);
                    Checks.due("its entries", x.here(2), 1);
                    Checks.due("the string", x.down(0), 5);
                    Checks.due("the name", Files.letters(x, true), names[which]);
                    Checks.due("the bytes", Files.letters(x, false), Files.repeat("x", many));
                }
            }
        }
        House x = Checks.loads("two pages", twoPages(), 2);
        StringBuilder all = new StringBuilder();
        for (int c = 0; c < 256; c++) {
            all.append((char) c);
        }
        Files.info(x, 1, all.toString());
        Files.info(x, 3, "");
        x.go(5);
        x.down(0);
        Checks.due("all bytes", Files.letters(x, false), all.toString());
        x.up();
        x.down(1);
        Checks.due("no bytes", x.here(2), 0);
        House four = Checks.loads("two pages", twoPages(), 2);
        for (int which = 0; which < 4; which++) {
            Files.info(four, which, Files.noise(2000, which));
        }
        for (int which = 0; which < 4; which++) {
            four.go(5);
            four.down(which);
            Checks.due("all four at once " + which, Files.letters(four, false), Files.noise(2000, which));
        }
        Checks.due("the names that were read stay", written(four, 5).startsWith("<< /Title <"), true);
        four.whole();
        Checks.due("in other objects, too", Files.out(four).startsWith("%PDF-1.7\n1 0 obj\n<< /Type /Catalog /Pages 3 0 R >>\nendobj\n"), true);
        House full = Checks.loads("Info there, Size 200", Files.paged().object(4, "<< /A 1 >>").table("/Info 4 0 R /Root 1 0 R", 200), 1);
        Checks.due("no new number is needed", Files.info(full, 2, "s"), 4);
        Checks.due("it comes last", written(full, 4), "<< /A 1 /Subject (s) >>");
        Checks.due("a stream needs one", Files.contents(full, 0, ""), -1);
        House row = Checks.loads("Info through a row", Files.paged().object(4, "5 0 R").object(5, "<< >>").table("/Info 4 0 R /Root 1 0 R"), 1);
        Checks.due("the last object", Files.info(row, 0, "t"), 5);
        Checks.due("is changed", written(row, 5), "<< /Title (t) >>");
        Checks.due("alone", row.count(6), 1);
    }

    /** Three nodes: 2 has 3, page 5 and 4; 3 has pages 6, 7; 4 has page 8; 9 is of none. */
    private static House web() {
        String page = "<< /Type /Page /Parent @ 0 R >>";
        return Checks.loads("a web", new Files().object(1, Files.CATALOG)
                .object(2, "<< /Type /Pages /Kids [ 9 0 R 3 0 R 5 0 R 4 0 R ] /Count 4 /MediaBox [ 0 0 9 9 ] >>")
                .object(3, "<< /Type /Pages /Parent 2 0 R /Kids [ 6 0 R 7 0 R ] /Count 2 >>")
                .object(4, "<< /Type /Pages /Parent 2 0 R /Kids [ 8 0 R ] /Count 1 >>")
                .object(5, page.replace("@", "2")).object(6, page.replace("@", "3")).object(7, page.replace("@", "3"))
                .object(8, page.replace("@", "4")).object(9, "<< /Type /Pages /Parent 2 0 R /Kids [ ] /Count 0 >>")
                .table("/Root 1 0 R"), 4);
    }

    private static String kids(House x, int node) {
        x.go(node);
        StringBuilder all = new StringBuilder();
        int entries = x.here(2);
        for (int i = 0; i < entries; i++) {
            x.down(i);
            boolean isKids = Files.letters(x, true).equals("Kids");
            int many = isKids ? x.here(2) : 0;
            for (int k = 0; k < many; k++) {
                x.down(k);
                all.append(x.here(1)).append(x.here(3) == 0 ? " " : "? ");
                x.up();
            }
            if (Files.letters(x, true).equals("Count")) {
                all.append("of ").append(x.here(1));
            }
            x.up();
        }
        return all.toString();
    }

    /** A page comes into the node that has page k, before it; behind the last one into that one's. */
    private static void whereTheyGo() {
        String[][] want = {
            {"10 6 7 of 3", "8 of 1", "9 3 5 4 of 5", "10 6 7 5 8 "}, {"6 10 7 of 3", "8 of 1", "9 3 5 4 of 5", "6 10 7 5 8 "},
            {"6 7 of 2", "8 of 1", "9 3 10 5 4 of 5", "6 7 10 5 8 "}, {"6 7 of 2", "10 8 of 2", "9 3 5 4 of 5", "6 7 5 10 8 "},
            {"6 7 of 2", "8 10 of 2", "9 3 5 4 of 5", "6 7 5 8 10 "}};
        int[] nodes = {3, 3, 2, 4, 4};
        for (int k = 0; k <= 4; k++) {
            House x = web();
            Checks.due("insert " + k, x.insert(k, 1, 1), 10);
            Checks.due("node 3 behind " + k, kids(x, 3), want[k][0]);
            Checks.due("node 4 behind " + k, kids(x, 4), want[k][1]);
            Checks.due("node 2 behind " + k, kids(x, 2), want[k][2]);
            Checks.due("pages behind " + k, pages(x), want[k][3]);
            Checks.due("the page", written(x, 10), "<< /Type /Page /Parent " + nodes[k] + " 0 R /MediaBox [ 0 0 1 1 ] >>");
            Checks.due("changed", x.count(6), nodes[k] == 2 ? 2 : 3);
        }
    }

    private static void wherePagesAreTaken() {
        String[][] want = {{"7 of 1", "8 of 1", "9 3 5 4 of 3", "7 5 8 "}, {"6 of 1", "8 of 1", "9 3 5 4 of 3", "6 5 8 "},
            {"6 7 of 2", "8 of 1", "9 3 4 of 3", "6 7 8 "}, {"6 7 of 2", "of 0", "9 3 5 4 of 3", "6 7 5 "}};
        int[] changed = {2, 2, 1, 2};
        for (int k = 0; k < 4; k++) {
            House x = web();
            int page = x.page(k, 0);
            Checks.due("delete " + k, x.delete(k), 3);
            Checks.due("node 3 without " + k, kids(x, 3), want[k][0]);
            Checks.due("node 4 without " + k, kids(x, 4), want[k][1]);
            Checks.due("node 2 without " + k, kids(x, 2), want[k][2]);
            Checks.due("pages without " + k, pages(x), want[k][3]);
            Checks.due("changed", x.count(6), changed[k]);
            Checks.due("its object stays", x.go(page), 7);
            Checks.due("as it was", x.here(2), 2);
        }
        House x = web();
        for (int left = 3; left >= 0; left--) {
            Checks.due("delete the last", x.delete(left), left);
        }
        Checks.due("nodes of none", kids(x, 2) + kids(x, 3) + kids(x, 4), "9 3 4 of 0of 0of 0");
        Checks.due("insert into the first node", x.insert(0, 1, 1), 10);
        Checks.due("last", kids(x, 2), "9 3 4 10 of 1");
        House y = Checks.loads("one page below", new Files().object(1, Files.CATALOG).object(2, "<< /Type /Pages /Kids [ 3 0 R ] /Count 1 >>")
                .object(3, "<< /Type /Pages /Parent 2 0 R /Kids [ 4 0 R ] /Count 1 /MediaBox [ 0 0 1 1 ] >>")
                .object(4, "<< /Type /Page /Parent 3 0 R >>").table("/Root 1 0 R"), 1);
        Checks.due("the only page is moved", y.move(0, 0), 4);
        Checks.due("into the first node", kids(y, 2) + ", " + kids(y, 3), "3 4 of 1, of 0");
        Checks.due("its own", written(y, 4), "<< /Type /Page /Parent 2 0 R /MediaBox [ 0 0 1 1 ] >>");
    }

    /** All moves of a web's four pages: the order, and that all counts are right. */
    private static void countsAbove() {
        for (int k = 0; k < 4; k++) {
            for (int to = 0; to < 4; to++) {
                House x = web();
                StringBuilder want = new StringBuilder("6 7 5 8 ");
                String page = want.substring(2 * k, 2 * k + 2);
                want.delete(2 * k, 2 * k + 2).insert(2 * to, page);
                Checks.due("move " + k + " to " + to, x.move(k, to), page.charAt(0) - '0');
                Checks.due("pages of " + k + " to " + to, pages(x), want.toString());
                Checks.due("its box", x.page(to, 3), 9 * 65536);
                x.whole();
                x.take();
                Checks.due("it loads " + k + " to " + to, x.load(), 4);
                House y = web();
                y.move(k, to);
                y.more();
                y.take();
                Checks.due("more loads " + k + " to " + to, y.load(), 4);
                Checks.due("pages of more", pages(y), want.toString());
            }
        }
    }

    private static void over(String node, String page, String want) {
        House x = Checks.loads("taken over " + page, new Files().object(1, Files.CATALOG)
                .object(2, "<< /Type /Pages /Kids [ 3 0 R ] /Count 1 /MediaBox [ 0 0 7 7 ] " + node + ">>")
                .object(3, "<< /Type /Page /Parent 2 0 R " + page + ">>").object(4, "[ 1 2 3 4 ]").object(5, "null").object(6, "<< /A 1 >>")
                .table("/Root 1 0 R"), 1);
        Checks.due("move " + page, x.move(0, 0), 3);
        Checks.due("the page " + page, written(x, 3), "<< /Type /Page /Parent 2 0 R " + want + ">>");
    }

    /** MediaBox, Resources, Rotate, in this order, as they stand above, where the page has none. */
    private static void takenOver() {
        over("", "", "/MediaBox [ 0 0 7 7 ] ");
        over("/Rotate 90 /Resources << /B [ 2 ] >> ", "", "/MediaBox [ 0 0 7 7 ] /Resources << /B [ 2 ] >> /Rotate 90 ");
        over("/Rotate 90 /Resources 6 0 R ", "", "/MediaBox [ 0 0 7 7 ] /Resources 6 0 R /Rotate 90 ");
        over("/Rotate 90 ", "/Rotate 0 ", "/Rotate 0 /MediaBox [ 0 0 7 7 ] ");
        over("/Rotate 90 ", "/Rotate null ", "/Rotate 90 /MediaBox [ 0 0 7 7 ] ");
        over("/Rotate 90 ", "/Rotate 5 0 R ", "/Rotate 90 /MediaBox [ 0 0 7 7 ] ");
        over("/Rotate 90 ", "/Rotate 9 0 R /X 1 ", "/Rotate 90 /X 1 /MediaBox [ 0 0 7 7 ] ");
        over("", "/MediaBox 4 0 R ", "/MediaBox 4 0 R ");
        over("/Resources null /Rotate 9 0 R ", "", "/MediaBox [ 0 0 7 7 ] ");
        over("/Resources << >> ", "/Resources 6 0 R ", "/Resources 6 0 R /MediaBox [ 0 0 7 7 ] ");
        over("", "/Rotate null /Resources null ", "/Rotate null /Resources null /MediaBox [ 0 0 7 7 ] ");
        over("/Contents 6 0 R /Other 1 ", "", "/MediaBox [ 0 0 7 7 ] ");
    }

    private static void numbered(String what, String entry, String trailer, int... want) {
        House x = Checks.loads(what, Files.paged().object(4, entry).table("/Root 1 0 R " + trailer), 1);
        int objects = x.objects();
        int made = 0;
        for (int n : want) {
            int size = x.count(0);
            Checks.due(what + ": the next", Files.contents(x, 0, ""), n);
            Checks.due(what + ": Size", x.count(0), n + 1);
            for (int passed = size; passed < n; passed++) {
                Checks.due(what + ": free", x.go(passed), -1);
            }
            Checks.due(what + ": a stream", x.go(n), 9);
            made++;
            Checks.due(what + ": what is passed over is no change", x.count(6), made + 1);
            Checks.due(what + ": nor an object", x.objects(), objects + made);
        }
    }

    /** The least number from Size on that no reference names, of whatever generation. */
    private static void numbersOfNewOnes() {
        numbered("none", "5", "", 5, 6, 7);
        numbered("the next one", "5 0 R", "", 6, 7);
        numbered("of another generation", "[ 5 65535 R ]", "", 6, 7);
        numbered("two", "[ 6 0 R 5 0 R ]", "", 7, 8);
        numbered("one behind", "[ 6 0 R ]", "", 5, 7);
        numbered("deep", "<< /A [ << /B [ 5 0 R ] >> ] >>", "", 6);
        numbered("in a stream's dict", "<< /A 5 0 R /Length 0 >> stream\n\nendstream", "", 6);
        numbered("in the trailer", "7", "/X 5 0 R", 6);
        numbered("deep in the trailer", "7", "/X [ 6 1 R << /Y 5 0 R >> ]", 7);
        numbered("what a string tells is none", "(5 0 R)", "", 5);
        numbered("what is far is none yet", "[ 199 0 R 198 0 R ]", "", 5, 6);
        // What a change took away was read all the same.
        House x = Checks.loads("a Rotate that goes", new Files().object(1, Files.CATALOG).object(2, Files.ONE_PAGE)
                .object(3, Files.PAGE.replace(" >>", " /Rotate 4 0 R >>")).table("/Root 1 0 R"), 1);
        x.turn(0, 90);
        Checks.due("4 was named", x.insert(0, 1, 1), 5);
        // What a change brought does not count: the Parent of 4 is 2, and 5 is named by none.
        Checks.due("then 6", x.insert(0, 1, 1), 6);
    }

    /** A number that an elder section told of is new with generation 0. */
    private static void newOnesAreOfGeneration0() {
        Files files = Files.paged();
        int three = files.length();
        files.raw("5 3 obj (x) endobj ");
        int elder = files.length();
        files.raw(String.format("xref\n1 5\n%010d 00000 n \n%010d 00000 n \n%010d 00000 n \n0000000000 00004 f \n%010d 00003 n \n"
                + "trailer << /Size 6 /Root 1 0 R >>\n", files.placeOf(1), files.placeOf(2), files.placeOf(3), three));
        int newest = files.length();
        files.raw("xref\n0 0\ntrailer << /Size 4 /Root 1 0 R /Prev " + elder + " >>\n");
        House x = Checks.loads("elder generations", files.end(newest), 1);
        Checks.due("4 is new", x.insert(0, 1, 1), 4);
        Checks.due("5 is new", x.insert(0, 1, 1), 5);
        x.more();
        Checks.due("4 and 5 of generation 0", Files.out(x).contains("\n4 0 obj\n") && Files.out(x).contains("\n5 0 obj\n"), true);
        Checks.due("so are references", Files.out(x).contains("/Kids [ 5 0 R 4 0 R 3 0 R ]"), true);
        x.take();
        Checks.due("it loads", x.load(), 3);
    }

    /** A document of almost 6000 objects has room for all changes that some hundred calls can make. */
    private static void manyChanges() {
        Files files = new Files().object(1, Files.CATALOG).object(2, "<< /Type /Pages /Kids 5 0 R /Count 2 /Rotate 90 /Resources << /A [ 1 2 ] >> >>")
                .object(3, Files.PAGE).object(4, Files.PAGE).object(5, "[ 3 0 R 4 0 R ]")
                .stream(6, "/Filter /FlateDecode /Type /ObjStm /N 1 /First 4", Files.deflated("7 0 [" + Files.repeat("0 ", 3980) + "]"))
                .stream(8, "/Filter /FlateDecode /Type /ObjStm /N 1 /First 4", Files.deflated("9 0 [" + Files.repeat("0 ", 1850) + "]"));
        int begin = files.length();
        StringBuilder rows = new StringBuilder();
        for (int n = 1; n <= 9; n++) {
            int place = n == 7 ? 6 : n == 9 ? 8 : files.placeOf(n);
            rows.append(n == 7 || n == 9 ? '\2' : '\1').append((char) (place >> 8)).append((char) (place & 255)).append('\0');
        }
        files.raw("10 0 obj << /Type /XRef /Size 11 /W [ 1 2 1 ] /Index [ 1 9 ] /Root 1 0 R /Length 36 >> stream\n" + rows + "\nendstream endobj ");
        House x = Checks.loads("many objects", files.end(begin), 2);
        for (int i = 0; i < 58; i++) {
            Checks.due("insert " + i, x.insert(i, 5, 5), 11 + i);
        }
        for (int i = 0; i < 100; i++) {
            Checks.due("move " + i, x.move(i * 7 % 60, i * 11 % 60) > 0, true);
        }
        for (int i = 0; i < 60; i++) {
            Checks.due("turn " + i, x.turn(i, 180), true);
        }
        for (int i = 0; i < 30; i++) {
            Checks.due("contents " + i, Files.contents(x, i, "S") > 0, true);
        }
        for (int i = 0; i < 4; i++) {
            Checks.due("info " + i, Files.info(x, i % 4, "t") > 0, true);
        }
        Checks.due("shown", x.show(30), 0);
        for (int i = 59; i >= 40; i--) {
            Checks.due("delete " + i, x.delete(i), i);
        }
    }

    private static void fullOfNumbers() {
        House x = Checks.loads("Size 199, and 199 named", Files.paged().object(4, "199 0 R").table("/Root 1 0 R", 199), 1);
        Checks.due("insert", x.insert(0, 1, 1), -1);
        Checks.due("contents", Files.contents(x, 0, ""), -1);
        Checks.due("info", Files.info(x, 0, ""), -1);
        Checks.due("nothing changed", x.count(6), 0);
        Checks.due("Size", x.count(0), 199);
        House y = Checks.loads("Size 198", Files.paged().object(4, "198 0 R").table("/Root 1 0 R", 198), 1);
        Checks.due("the last number", Files.contents(y, 0, "x"), 199);
        Checks.due("Size is 200", y.count(0), 200);
        Checks.due("198 is free", y.go(198), -1);
        Checks.due("no other one", Files.contents(y, 0, "y"), -1);
        Checks.due("the contents stay", Files.data(y, 199), "x");
        Checks.due("delete needs none", y.delete(0), 0);
        Checks.due("insert needs one", y.insert(0, 1, 1), -1);
        Checks.due("info needs one", Files.info(y, 0, "y"), -1);
        House all = Checks.loads("all others", Files.paged().object(4, "5").table("/Root 1 0 R"), 1);
        for (int n = 5; n < 200; n++) {
            Checks.due("number " + n, Files.contents(all, 0, ""), n);
        }
        Checks.due("no 200th", Files.contents(all, 0, ""), -1);
        Checks.due("195 and a page are changed", all.count(6), 196);
        Checks.due("more needs none", all.more() > 0, true);
        Checks.due("objects", all.objects(), 199);
    }

    private static void fullOfPages() {
        House x = paged();
        for (int i = 1; i < 60; i++) {
            Checks.due("insert " + i, x.insert(i / 2, i, i), i + 3);
        }
        Checks.due("no 61st", x.insert(30, 1, 1), -1);
        Checks.due("60 pages", x.pages(), 60);
        Checks.due("delete one", x.delete(59), 59);
        Checks.due("one more", x.insert(59, 1, 1), 63);
        Checks.due("no 61st again", x.insert(60, 1, 1), -1);
        Checks.due("move of 60", x.move(0, 59) > 0, true);
        Checks.due("not to 60", x.move(0, 60), -1);
        x.more();
        x.take();
        Checks.due("it loads", x.load(), 60);
    }

    /** What stands in an object stream is changed like all others, and written as an object. */
    private static void insideAStream() {
        Files files = new Files();
        String tree = "<< /Type /Pages /Kids [ 3 0 R ] /Count 1 >>";
        String pairs = String.format("1 0 2 %d 3 %d ", Files.CATALOG.length() + 1, Files.CATALOG.length() + tree.length() + 2);
        files.stream(4, "/Type /ObjStm /N 3 /First " + pairs.length(), pairs + Files.CATALOG + " " + tree + " " + Files.PAGE);
        int begin = files.length();
        files.raw("5 0 obj << /Type /XRef /Size 6 /W [ 1 2 1 ] /Index [ 1 4 ] /Root 1 0 R /Length 16 >> stream\n\2\0\4\0\2\0\4\1\2\0\4\2\1\0"
                + (char) files.placeOf(4) + "\0\nendstream endobj ");
        House x = Checks.loads("all inside", files.end(begin), 1);
        Checks.due("objects", x.objects(), 4);
        Checks.due("turn", x.turn(0, 90), true);
        Checks.due("changed", x.count(6), 1);
        Checks.due("as an object", written(x, 3), Files.PAGE.replace(" >>", " /Rotate 90 >>"));
        Checks.due("insert", x.insert(1, 1, 1), 6);
        x.more();
        x.take();
        Checks.due("it loads", x.load(), 2);
        Checks.due("turned", x.page(0, 5), 90);
        Checks.due("a row stream again", x.count(4), 1);
    }

    /** Info in an object stream is changed as well, and written as an object of generation 0. */
    private static void infoInsideAStream() {
        Files files = Files.paged().stream(4, "/Type /ObjStm /N 1 /First 4", "5 0 << /Title (old) /X 1 >>");
        int begin = files.length();
        StringBuilder rows = new StringBuilder();
        for (int n = 1; n <= 4; n++) {
            rows.append('\1').append((char) (files.placeOf(n) >> 8)).append((char) (files.placeOf(n) & 255)).append('\0');
        }
        files.raw("6 0 obj << /Type /XRef /Size 7 /W [ 1 2 1 ] /Index [ 1 5 ] /Root 1 0 R /Info 5 0 R /Length 20 >> stream\n" + rows + "\2\0\4\0"
                + "\nendstream endobj ");
        House x = Checks.loads("Info inside", files.end(begin), 1);
        Checks.due("its number", x.count(2), 5);
        Checks.due("Title", Files.info(x, 0, "new"), 5);
        Checks.due("Author", Files.info(x, 1, "a"), 5);
        Checks.due("one is changed", x.count(6), 1);
        Checks.due("as an object", written(x, 5), "<< /Title (new) /X 1 /Author (a) >>");
        Checks.due("the stream stays", x.size(4), 27);
        x.more();
        x.take();
        Checks.due("it loads", x.load(), 1);
        Checks.due("Info", x.count(2), 5);
        x.go(5);
        Checks.due("its entries", x.here(2), 3);
    }

    /** References that stand in what is changed stay as they are, also such as lead nowhere. */
    private static void referencesStay() {
        House x = Checks.loads("references", new Files().object(1, Files.CATALOG).object(2, "<< /X 9 7 R /Type /Pages /Kids [ 5 0 R 4 0 R ] /Count 2 >>")
                .object(3, Files.PAGE).object(4, "<< /Y [ 4 3 R 8 0 R ] /Type /Page /Parent 6 0 R /MediaBox 7 0 R >>").object(5, "3 0 R").object(6, "2 0 R")
                .object(7, "[ 0 0 1 1 ]").table("/Root 1 0 R"), 2);
        x.move(0, 1);
        Checks.due("the node", written(x, 2), "<< /X 9 7 R /Type /Pages /Kids [ 4 0 R 3 0 R ] /Count 2 >>");
        x.turn(0, 180);
        Checks.due("the page", written(x, 4), "<< /Y [ 4 3 R 8 0 R ] /Type /Page /Parent 6 0 R /MediaBox 7 0 R /Rotate 180 >>");
        Checks.due("three are changed", x.count(6), 3);
        Files pages = new Files().object(1, Files.CATALOG).object(2, "<< /Type /Pages /Kids [ 3 4 R 4 0 R ] /Count 2 >>").object(4, Files.PAGE);
        int page = pages.length();
        pages.raw("3 4 obj " + Files.PAGE + " endobj ");
        int entries = pages.length();
        pages.raw(String.format("xref\n1 4\n%010d 00000 n \n%010d 00000 n \n%010d 00004 n \n%010d 00000 n \ntrailer << /Size 5 /Root 1 0 R >>\n",
                pages.placeOf(1), pages.placeOf(2), page, pages.placeOf(4)));
        House z = Checks.loads("a page of generation 4", pages.end(entries), 2);
        Checks.due("move it", z.move(0, 1), 3);
        Checks.due("a reference of its generation", written(z, 2), "<< /Type /Pages /Kids [ 4 0 R 3 4 R ] /Count 2 >>");
        z.more();
        Checks.due("written with it", Files.out(z).contains("\n3 4 obj\n" + Files.PAGE + "\nendobj\n"), true);
        z.take();
        Checks.due("it loads", z.load(), 2);
        Checks.due("in that order", pages(z), "4 3 ");
        Files generation = new Files().object(1, Files.CATALOG).object(3, Files.PAGE);
        int begin = generation.length();
        generation.raw("2 5 obj << /Type /Pages /Kids [ 3 0 R ] /Count 1 >> endobj ");
        int table = generation.length();
        generation.raw(String.format("xref\n1 3\n%010d 00000 n \n%010d 00005 n \n%010d 00000 n \ntrailer << /Size 4 /Root 1 0 R >>\n",
                generation.placeOf(1), begin, generation.placeOf(3)));
        String file = generation.end(table).replace("/Pages 2 0 R", "/Pages 2 5 R").replace("/Parent 2 0 R", "/Parent 2 5 R");
        House y = Checks.loads("a node of generation 5", file, 1);
        Checks.due("insert", y.insert(0, 1, 1), 4);
        Checks.due("its Parent", written(y, 4), "<< /Type /Page /Parent 2 5 R /MediaBox [ 0 0 1 1 ] >>");
        y.more();
        Checks.due("the node with its generation", Files.out(y).contains("\n2 5 obj\n<< /Type /Pages /Kids [ 4 0 R 3 0 R ] /Count 2 >>\nendobj\n"), true);
        y.take();
        Checks.due("it loads", y.load(), 2);
        y.whole();
        Checks.due("whole has generation 0", Files.out(y).contains("\n2 0 obj\n<< /Type /Pages /Kids [ 3 0 R 4 0 R ] /Count 2 >>\nendobj\n"), true);
    }

    /** A document read anew has no part of what was changed before. */
    private static void changesAreForgotten() {
        House x = Checks.loads("named", Files.paged().object(4, "[ 5 0 R 6 0 R ]").table("/Root 1 0 R"), 1);
        Files.contents(x, 0, "S");
        Files.info(x, 0, "T");
        x.turn(0, 90);
        x.insert(0, 1, 1);
        x.delete(1);
        Files.load(x, Files.paged().table("/Root 1 0 R"));
        Checks.due("pages", pages(x), "3 ");
        Checks.due("changed", x.count(6), 0);
        Checks.due("Info", x.count(2), 0);
        Checks.due("Size", x.count(0), 4);
        Checks.due("objects", x.objects(), 3);
        Checks.due("Rotate", x.page(0, 5), 0);
        Checks.due("bytes", x.page(0, 6), 0);
        for (int n = 4; n < 9; n++) {
            Checks.due("numbers are named anew", x.insert(0, 1, 1), n);
        }
        for (int i = 0; i < 6; i++) {
            Files.load(x, Files.paged().table("/Root 1 0 R"));
            Checks.due("bytes are counted anew", Files.contents(x, 0, Files.repeat("x", 8000)), 4);
            Checks.due("their bytes", x.size(4), 8000);
        }
    }
}
