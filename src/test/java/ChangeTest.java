/** Promises 14 and 19 to 24: changes. */
public final class ChangeTest {
    public static void main(String[] args) {
        inserts();
        insertsRefused();
        deletes();
        moves();
        takesOver();
        turns();
        contents();
        infos();
        newNumbers();
        kidsElsewhere();
        deepKids();
        manyMoves();
        theCursorGoes();
        Checks.end();
    }

    private static PaperHouse paged() {
        return Checks.loads("one page", Files.paged().table("/Root 1 0 R"), 1);
    }

    /** How object n would be written, told by what MORE puts behind the file. */
    static String written(PaperHouse x, int n) {
        x.more();
        String all = "\n" + Files.out(x);
        int at = all.lastIndexOf("\n" + n + " 0 obj\n");
        if (at < 0) {
            return "";
        }
        String begun = all.substring(at + ("\n" + n + " 0 obj\n").length());
        return begun.substring(0, begun.indexOf("\nendobj"));
    }

    private static String pages(PaperHouse x) {
        StringBuilder all = new StringBuilder();
        for (int k = 0; k < x.pages(); k++) {
            all.append(x.page(k, 0)).append(' ');
        }
        return all.toString();
    }

    private static void inserts() {
        PaperHouse x = paged();
        Checks.due("insert ahead", x.insert(0, 1, 2), 4);
        Checks.due("insert behind", x.insert(2, 14400, 14400), 5);
        Checks.due("insert between", x.insert(1, 3, 4), 6);
        Checks.due("pages", pages(x), "4 6 3 5 ");
        Checks.due("pages()", x.pages(), 4);
        Checks.due("box", x.page(3, 4), 14400 * 65536);
        Checks.due("Size", x.count(0), 7);
        Checks.due("changed", x.count(6), 4);
        Checks.due("objects", x.objects(), 6);
        Checks.due("the new page", written(x, 6), "<< /Type /Page /Parent 2 0 R /MediaBox [ 0 0 3 4 ] >>");
        Checks.due("the node", written(x, 2), "<< /Type /Pages /Kids [ 4 0 R 6 0 R 3 0 R 5 0 R ] /Count 4 >>");
        PaperHouse empty = Checks.loads("no pages", Files.empty().table("/Root 1 0 R"), 0);
        Checks.due("insert into none", empty.insert(0, 5, 6), 3);
        Checks.due("the page there", empty.page(0, 3), 5 * 65536);
        Checks.due("its node", written(empty, 2), "<< /Type /Pages /Kids [ 3 0 R ] /Count 1 >>");
    }

    private static void insertsRefused() {
        PaperHouse x = paged();
        Checks.due("k below", x.insert(-1, 1, 1), -1);
        Checks.due("k beyond", x.insert(2, 1, 1), -1);
        Checks.due("w 0", x.insert(0, 0, 1), -1);
        Checks.due("w 14401", x.insert(0, 14401, 1), -1);
        Checks.due("h 0", x.insert(0, 1, 0), -1);
        Checks.due("h 14401", x.insert(0, 1, 14401), -1);
        Checks.due("nothing changed", x.count(6), 0);
        for (int i = 1; i < 60; i++) {
            Checks.due("insert " + i, x.insert(i, 1, 1), i + 3);
        }
        Checks.due("61 pages", x.insert(0, 1, 1), -1);
        Checks.due("60 pages", x.pages(), 60);
        PaperHouse full = Checks.loads("Size 199", Files.paged().table("/Root 1 0 R", 199), 1);
        Checks.due("object 199", full.insert(0, 1, 1), 199);
        Checks.due("Size is 200", full.count(0), 200);
        Checks.due("Size would be 201", full.insert(0, 1, 1), -1);
        Checks.due("contents likewise", Files.contents(full, 0, "x"), -1);
        Checks.due("info likewise", Files.info(full, 0, "x"), -1);
    }

    private static void deletes() {
        PaperHouse x = paged();
        Checks.due("none such", x.delete(1), -1);
        Checks.due("none such below", x.delete(-1), -1);
        x.insert(1, 1, 1);
        Checks.due("delete", x.delete(0), 1);
        Checks.due("left", pages(x), "4 ");
        Checks.due("the node", written(x, 2), "<< /Type /Pages /Kids [ 4 0 R ] /Count 1 >>");
        Checks.due("the page is no change", x.count(6), 2);
        Checks.due("it is an object still", x.go(3), 7);
        Checks.due("delete the last", x.delete(0), 0);
        Checks.due("the node has none", written(x, 2), "<< /Type /Pages /Kids [ ] /Count 0 >>");
        Checks.due("insert again", x.insert(0, 9, 9), 5);
        Checks.due("the node has it", written(x, 2), "<< /Type /Pages /Kids [ 5 0 R ] /Count 1 >>");
    }

    private static PaperHouse two() {
        return Checks.loads("two nodes", new Files().object(1, Files.CATALOG)
                .object(2, "<< /Type /Pages /Kids [ 3 0 R 4 0 R ] /Count 4 /MediaBox [ 0 0 9 9 ] /Rotate 90 >>")
                .object(3, "<< /Type /Pages /Parent 2 0 R /Kids [ 5 0 R 6 0 R ] /Count 2 /Resources << /A [ 1 ] >> /Rotate 8 0 R >>")
                .object(4, "<< /Type /Pages /Parent 2 0 R /Kids [ 7 0 R 9 0 R ] /Count 2 >>")
                .object(5, "<< /Type /Page /Parent 3 0 R >>").object(6, "<< /Type /Page /MediaBox null /Parent 3 0 R >>")
                .object(7, "<< /Type /Page /Parent 4 0 R >>").object(8, "180")
                .object(9, "<< /Type /Page /Parent 4 0 R /Rotate 0 /Resources << >> /MediaBox [ 0 0 1 1 ] >>")
                .table("/Root 1 0 R"), 4);
    }

    private static void moves() {
        PaperHouse x = two();
        Checks.due("none such", x.move(4, 0), -1);
        Checks.due("to below", x.move(0, -1), -1);
        Checks.due("to beyond", x.move(0, 4), -1);
        Checks.due("nothing changed", x.count(6), 0);
        Checks.due("move", x.move(0, 2), 5);
        Checks.due("pages", pages(x), "6 7 5 9 ");
        Checks.due("changed", x.count(6), 4);
        Checks.due("the elder node", written(x, 3), "<< /Type /Pages /Parent 2 0 R /Kids [ 6 0 R ] /Count 1 /Resources << /A [ 1 ] >> /Rotate 8 0 R >>");
        Checks.due("the other node", written(x, 4), "<< /Type /Pages /Parent 2 0 R /Kids [ 7 0 R 5 0 R 9 0 R ] /Count 3 >>");
        Checks.due("above both", written(x, 2), "<< /Type /Pages /Kids [ 3 0 R 4 0 R ] /Count 4 /MediaBox [ 0 0 9 9 ] /Rotate 90 >>");
        Checks.due("move to the end", x.move(0, 3), 6);
        Checks.due("pages then", pages(x), "7 5 9 6 ");
        Checks.due("a node of none", written(x, 3), "<< /Type /Pages /Parent 2 0 R /Kids [ ] /Count 0 /Resources << /A [ 1 ] >> /Rotate 8 0 R >>");
        Checks.due("move nowhere else", x.move(1, 1), 5);
        Checks.due("pages still", pages(x), "7 5 9 6 ");
        PaperHouse one = paged();
        Checks.due("the only page", one.move(0, 0), 3);
        Checks.due("it is there", pages(one), "3 ");
        Checks.due("it is changed", one.count(6), 2);
    }

    private static void takesOver() {
        PaperHouse x = two();
        x.move(0, 3);
        Checks.due("of two above", written(x, 5),
                "<< /Type /Page /Parent 4 0 R /MediaBox [ 0 0 9 9 ] /Resources << /A [ 1 ] >> /Rotate 8 0 R >>");
        x.move(0, 3);
        Checks.due("where null stands", written(x, 6),
                "<< /Type /Page /MediaBox [ 0 0 9 9 ] /Parent 4 0 R /Resources << /A [ 1 ] >> /Rotate 8 0 R >>");
        x.move(1, 0);
        Checks.due("of its own", written(x, 9),
                "<< /Type /Page /Parent 4 0 R /Rotate 0 /Resources << >> /MediaBox [ 0 0 1 1 ] >>");
        Checks.due("Rotate stays", x.page(3, 5), 180);
        Checks.due("turn it", x.turn(3, -90), true);
        Checks.due("it alone", x.page(3, 5), -90);
        Checks.due("the others not", x.page(2, 5), 180);
    }

    private static void turns() {
        PaperHouse x = two();
        Checks.due("none such", x.turn(4, 90), false);
        Checks.due("45", x.turn(0, 45), false);
        Checks.due("450", x.turn(0, 450), false);
        Checks.due("-450", x.turn(0, -450), false);
        Checks.due("nothing changed", x.count(6), 0);
        for (int degrees = -360; degrees <= 360; degrees += 90) {
            Checks.due("turn " + degrees, x.turn(0, degrees), true);
            Checks.due("turned " + degrees, x.page(0, 5), degrees);
        }
        Checks.due("one changed", x.count(6), 1);
        Checks.due("it comes last", written(x, 5), "<< /Type /Page /Parent 3 0 R /Rotate 360 >>");
        x.turn(3, -360);
        Checks.due("it stays in its place", written(x, 9),
                "<< /Type /Page /Parent 4 0 R /Rotate -360 /Resources << >> /MediaBox [ 0 0 1 1 ] >>");
    }

    private static void contents() {
        PaperHouse x = paged();
        Checks.due("none such", Files.contents(x, 1, "x"), -1);
        Checks.due("contents", Files.contents(x, 0, "1 2 m"), 4);
        Checks.due("bytes", x.page(0, 6), 5);
        Checks.due("a stream", x.go(4), 9);
        Checks.due("of no entries", x.here(2), 0);
        Checks.due("its bytes", Files.data(x, 4), "1 2 m");
        Checks.due("the page", written(x, 3), Files.PAGE.replace(" >>", " /Contents 4 0 R >>"));
        Checks.due("empty contents", Files.contents(x, 0, ""), 5);
        Checks.due("their bytes", x.size(5), 0);
        Checks.due("changed", x.count(6), 3);
        for (int i = 0; i < 4; i++) {
            Checks.due("8000 more", Files.contents(x, 0, Files.repeat("x", 8000)), 6 + i);
        }
        Checks.due("too many together", Files.contents(x, 0, Files.repeat("x", 7996)), -1);
        Checks.due("just 40000", Files.contents(x, 0, Files.repeat("x", 7995)), 10);
        Checks.due("none more", Files.contents(x, 0, "x"), -1);
        Checks.due("but empty ones", Files.contents(x, 0, ""), 11);
    }

    private static void infos() {
        PaperHouse x = paged();
        Checks.due("no Info", x.count(2), 0);
        Checks.due("another number", Files.info(x, 4, "x"), -1);
        Checks.due("below", Files.info(x, -1, "x"), -1);
        Checks.due("more bytes", Files.info(x, 0, Files.repeat("x", 2001)), -1);
        Checks.due("nothing changed", x.count(6), 0);
        Checks.due("Subject", Files.info(x, 2, "s(b)"), 4);
        Checks.due("Info's number", x.count(2), 4);
        Checks.due("Title", Files.info(x, 0, Files.repeat("t", 2000)), 4);
        Checks.due("Title again", Files.info(x, 0, "short"), 4);
        Checks.due("Author", Files.info(x, 1, "\u00ff"), 4);
        Checks.due("Keywords", Files.info(x, 3, ""), 4);
        Checks.due("Info", written(x, 4), "<< /Subject <73286229> /Title (short) /Author <FF> /Keywords () >>");
        Checks.due("one changed", x.count(6), 1);
        PaperHouse y = Checks.loads("Info", Files.paged().object(4, "<< /Title 5 0 R /X 1 >>").object(5, "(old)")
                .table("/Root 1 0 R /Info 4 0 R"), 1);
        Checks.due("Title there", Files.info(y, 0, "new"), 4);
        Checks.due("Info then", written(y, 4), "<< /Title (new) /X 1 >>");
        Checks.due("it is changed", y.count(6), 1);
        PaperHouse z = Checks.loads("Info is Root", Files.paged().table("/Root 1 0 R /Info 1 0 R"), 1);
        Checks.due("Author of Root", Files.info(z, 1, "me"), 1);
        Checks.due("Root then", written(z, 1), "<< /Type /Catalog /Pages 2 0 R /Author (me) >>");
    }

    private static void newNumbers() {
        PaperHouse x = Checks.loads("named numbers", Files.paged().object(4, "[ 6 7 R << /A 8 0 R >> ]")
                .stream(5, "/B 10 0 R", "").table("/Root 1 0 R /X [ 9 3 R ]"), 1);
        Checks.due("7", x.insert(0, 1, 1), 7);
        Checks.due("objects", x.objects(), 6);
        Checks.due("6 is free", x.go(6), -1);
        Checks.due("11", Files.contents(x, 0, ""), 11);
        Checks.due("Size", x.count(0), 12);
        Checks.due("12", Files.info(x, 0, ""), 12);
        Files elder = Files.paged().object(4, "5 0 R");
        int first = elder.section("/Size 5 /Root 1 0 R /X 6 0 R");
        elder.raw("xref\n4 1\n0000000000 65535 f \ntrailer << /Size 5 /Root 1 0 R /Prev " + first + " >>\n");
        int newest = elder.length() - ("xref\n4 1\n0000000000 65535 f \ntrailer << /Size 5 /Root 1 0 R /Prev " + first + " >>\n").length();
        PaperHouse y = Checks.loads("an elder trailer", elder.end(newest), 1);
        Checks.due("neither of a free object nor of an elder trailer", y.insert(0, 1, 1), 5);
        Checks.due("nor then", y.insert(0, 1, 1), 6);
    }

    private static void kidsElsewhere() {
        Files files = new Files().object(1, Files.CATALOG).object(2, "<< /Kids 4 0 R /Type /Pages /Count 6 0 R >>")
                .object(3, "<< /Type /Page /Parent 7 0 R /MediaBox [ 0 0 1 1 ] >>").object(4, "5 0 R").object(5, "[ 8 0 R ]")
                .object(6, "1").object(7, "2 0 R").object(8, "3 0 R");
        PaperHouse x = Checks.loads("kids elsewhere", files.table("/Root 1 0 R"), 1);
        Checks.due("insert", x.insert(1, 1, 1), 9);
        Checks.due("the node", written(x, 2), "<< /Kids [ 8 0 R 9 0 R ] /Type /Pages /Count 2 >>");
        x.go(5);
        Checks.due("the array stays", x.here(2), 1);
        x.go(6);
        Checks.due("the whole stays", x.here(1), 1);
        Checks.due("two are changed", x.count(6), 2);
        Checks.due("move", x.move(0, 1), 3);
        Checks.due("the node then", written(x, 2), "<< /Kids [ 9 0 R 3 0 R ] /Type /Pages /Count 2 >>");
        Checks.due("the page", written(x, 3), "<< /Type /Page /Parent 2 0 R /MediaBox [ 0 0 1 1 ] >>");
    }

    private static void deepKids() {
        PaperHouse x = Checks.loads("deep", new Files().object(1, Files.CATALOG)
                .object(2, "<< /Type /Pages /Kids [ 3 0 R 5 0 R ] /Count 7 0 R >>")
                .object(3, "<< /Type /Pages /Parent 2 0 R /Kids [ 4 0 R ] /Count 7 0 R >>")
                .object(4, "<< /Type /Page /Parent 3 0 R /MediaBox [ 0 0 1 1 ] >>")
                .object(5, "<< /Type /Pages /Parent 2 0 R /Kids 6 0 R /Count 0 >>").object(6, "[ ]").object(7, "1")
                .table("/Root 1 0 R"), 1);
        Checks.due("behind the last page", x.insert(1, 1, 1), 8);
        Checks.due("into its node", written(x, 3), "<< /Type /Pages /Parent 2 0 R /Kids [ 4 0 R 8 0 R ] /Count 2 >>");
        Checks.due("and above", written(x, 2), "<< /Type /Pages /Kids [ 3 0 R 5 0 R ] /Count 2 >>");
        x.delete(0);
        x.delete(0);
        Checks.due("without pages into the first node", x.insert(0, 1, 1), 9);
        Checks.due("last", written(x, 2), "<< /Type /Pages /Kids [ 3 0 R 5 0 R 9 0 R ] /Count 1 >>");
        Checks.due("its parent", written(x, 9), "<< /Type /Page /Parent 2 0 R /MediaBox [ 0 0 1 1 ] >>");
    }

    private static void manyMoves() {
        PaperHouse x = two();
        for (int i = 0; i < 500; i++) {
            Checks.due("move " + i, x.move(i % 4, (i * 7 + 1) % 4) > 0, true);
        }
        Checks.due("all are there", x.pages(), 4);
        x.whole();
        x.take();
        Checks.due("it is a document", x.load(), 4);
    }

    private static void theCursorGoes() {
        PaperHouse x = paged();
        x.go(1);
        x.insert(5, 1, 1);
        x.turn(0, 1);
        x.delete(9);
        x.move(0, 9);
        Files.info(x, 9, "");
        Files.contents(x, 9, "");
        x.whole();
        x.more();
        Checks.due("refused: it stays", x.here(0), 7);
        x.insert(0, 1, 1);
        Checks.due("insert", x.here(0), -1);
        x.go(1);
        x.turn(0, 90);
        Checks.due("turn", x.here(0), -1);
        x.go(1);
        x.move(0, 1);
        Checks.due("move", x.here(0), -1);
        x.go(1);
        x.delete(0);
        Checks.due("delete", x.here(0), -1);
        x.go(1);
        Files.contents(x, 0, "");
        Checks.due("contents", x.here(0), -1);
        x.go(1);
        Files.info(x, 0, "");
        Checks.due("info", x.here(0), -1);
    }
}
