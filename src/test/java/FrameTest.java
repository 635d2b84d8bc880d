/** Promises 4, 5 and 14: the file's frame and its sections, and where they are wrong. */
public final class FrameTest {
    public static void main(String[] args) {
        headers();
        starts();
        tables();
        trailers();
        elderSections();
        entries();
        rowStreams();
        rowStreamsWrong();
        rowPairs();
        aFaultEndsTheDocument();
        Checks.end();
    }

    private static void headers() {
        Checks.refuses("nothing", "", 1, 0);
        Checks.refuses("another first byte", "x", 1, 0);
        Checks.refuses("short head", "%PDF-1.", 1, 7);
        Checks.refuses("wrong head", "%PDF-2.0", 1, 5);
        Checks.refuses("version 8", "%PDF-1.8\n", 1, 7);
        for (char version = '0'; version <= '7'; version++) {
            Checks.refuses("version " + version, "%PDF-1." + version, 2, 8);
        }
    }

    private static void starts() {
        String good = Files.empty().table("/Root 1 0 R");
        int start = good.lastIndexOf("startxref");
        int begin = good.indexOf("xref\n");
        Checks.loads("white at the end", good + " \t\f\r\n" + (char) 0, 0);
        Checks.loads("no white at the end", good.substring(0, good.length() - 1), 0);
        Checks.refuses("a remark at the end", good + "%", 2, good.length());
        Checks.refuses("no startxref", good.replace("startxref", "startxre_"), 2, good.length());
        Checks.refuses("only startxref", good.substring(0, start + 9), 2, start + 9);
        Checks.refuses("a remark behind startxref", good.replace("startxref\n", "startxref%\n"), 2, start + 9);
        Checks.refuses("a sign", good.replace("startxref\n", "startxref\n+"), 2, start + 10);
        Checks.refuses("no blank ahead of the end", good.replace("\n%%EOF", "%%EOF"), 2, good.indexOf("%%EOF") - 1);
        Checks.refuses("another end", good.replace("%%EOF", "%%EOR"), 2, good.indexOf("%%EOF") + 4);
        String cutEnd = good.substring(0, good.indexOf("%%EOF") + 3);
        Checks.refuses("half of the end", cutEnd, 2, cutEnd.length());
        Checks.loads("zeros ahead", good.replace("startxref\n", "startxref\n00000000000000"), 0);
        String digits = good.substring(start + 10, good.indexOf("\n%%EOF"));
        Checks.refuses("beyond a whole", good.replace("\n" + digits + "\n", "\n2147483648\n"), 2, start + 10);
        String far = good.replace("\n" + digits + "\n", "\n2147483647\n");
        Checks.refuses("just a whole", far, 3, far.length());
        Checks.loads("two of them", good.replace("startxref", "startxref 7 startxref"), 0);
        Checks.refuses("a section at 0", good.replace("\n" + digits + "\n", "\n0\n"), 3, 0);
        Checks.refuses("no section there", good.replace("\n" + digits + "\n", "\n9\n"), 3, 9);
        Checks.refuses("one byte ahead", good.replace("\n" + digits + "\n", "\n" + (begin - 1) + "\n"), 3, begin - 1);
    }

    /** A file whose table stands there to the letter. */
    private static String with(String table) {
        Files files = Files.empty();
        int begin = files.length();
        return files.raw(table.replace("AAAA", String.format("%010d", files.placeOf(1)))
                .replace("BBBB", String.format("%010d", files.placeOf(2)))).end(begin);
    }

    private static final int BEGIN = Files.empty().length();
    private static final String ROOT = "trailer\n<< /Size 3 /Root 1 0 R >>\n";

    private static void tables() {
        String entries = "0000000000 65535 f \nAAAA 00000 n \nBBBB 00000 n \n";
        Checks.loads("plain", with("xref\n0 3\n" + entries + ROOT), 0);
        Checks.loads("one line", with("xref 0 3\n" + entries + ROOT), 0);
        Checks.loads("a blank behind many", with("xref\n0 3 \n" + entries + ROOT), 0);
        Checks.loads("CR LF", with("xref\r\n0 3\r\n" + entries + ROOT), 0);
        Checks.loads("CR", with("xref\r0 3\r" + entries + ROOT), 0);
        Checks.loads("odd white", with("xref\0\t\n0 \f 3\n" + entries + ROOT), 0);
        Checks.loads("more zeros", with("xref\n00000000000000 000003\n" + entries + ROOT), 0);
        Checks.loads("other ends of entries", with("xref\n0 3\n0000000000 65535 f\r\nAAAA 00000 n \rBBBB 00000 n \n" + ROOT), 0);
        Checks.loads("rows", with("xref\n0 1\n0000000000 65535 f \n1 1\nAAAA 00000 n \n  \n2 1\nBBBB 00000 n \n" + ROOT), 0);
        Checks.loads("an empty row", with("xref\n9 0\n0 3\n" + entries + ROOT), 0);
        Checks.loads("a remark ahead of trailer", with("xref\n0 3\n" + entries + "%x\n" + ROOT), 0);
        Checks.loads("no white ahead of trailer", with("xref\n0 3\n" + entries.replace("BBBB 00000 n \n", "BBBB 00000 n\r\n") + ROOT), 0);
        Checks.refuses("two blanks behind many", with("xref\n0 3  \n" + entries + ROOT), 3, BEGIN);
        Checks.refuses("a tab behind many", with("xref\n0 3\t\n" + entries + ROOT), 3, BEGIN);
        Checks.refuses("a remark behind many", with("xref\n0 3%\n" + entries + ROOT), 3, BEGIN);
        Checks.refuses("a remark ahead of first", with("xref\n%\n0 3\n" + entries + ROOT), 3, BEGIN);
        Checks.refuses("a remark ahead of another first", with("xref\n0 1\n0000000000 65535 f \n%\n1 1\nAAAA 00000 n \n" + ROOT), 3, BEGIN);
        Checks.refuses("no row", with("xref\n" + ROOT), 3, BEGIN);
        Checks.refuses("another word", with("xreff\n0 3\n" + entries + ROOT), 3, BEGIN);
        Checks.refuses("white ahead", with(" xref\n0 3\n" + entries + ROOT), 3, BEGIN);
        Checks.refuses("no trailer", with("xref\n0 3\n" + entries), 3, BEGIN);
        Checks.refuses("trailer of no dict", with("xref\n0 3\n" + entries + "trailer 5 "), 3, BEGIN);
        Checks.refuses("above 200", with("xref\n1 200\n" + entries + ROOT), 5, BEGIN);
        Checks.refuses("far above 200", with("xref\n99999999999999999999 0\n" + entries + ROOT), 5, BEGIN);
        Checks.refuses("just 200", with("xref\n0 200\n" + entries + ROOT), 3, BEGIN + 11 + 60);
        rowsOfDigits(entries);
        String bad = "xref\n0 3\n0000000000 65535 f \nAAAA 0000 nn \nBBBB 00000 n \n" + ROOT;
        Checks.refuses("a wrong entry", with(bad), 3, BEGIN + 29);
        Checks.refuses("an entry of another kind", with("xref\n0 3\n" + entries.replace("00 f", "00 g").replace("35 f", "35 g") + ROOT), 3, BEGIN + 9);
        Checks.refuses("an entry that ends otherwise", with("xref\n0 3\n" + entries.replace(" f \n", " f\n\n") + ROOT), 3, BEGIN + 9);
        Checks.refuses("a trailer of no token", with("xref\n0 3\n" + entries + "trailer\n<< /Size ) >>"), 4, BEGIN + 9 + 60 + 17);
        Checks.refuses("a trailer that has a name twice", with("xref\n0 3\n" + entries + "trailer\n<< /A 1 /A 2 >>"), 5, BEGIN + 9 + 60 + 16);
    }

    /** FIRST and MANY are rows as long as can be: what is no row of digits is not above 200. */
    private static void rowsOfDigits(String entries) {
        String one = "xref\n0 1\n0000000000 65535 f \n";
        for (String row : new String[] {"300x", "x300", "300.", "+300", "-300", "300n", "999999999999x", "300#"}) {
            Checks.refuses("MANY " + row, with("xref\n0 " + row + "\n" + entries + ROOT), 3, BEGIN);
            Checks.refuses("FIRST " + row, with("xref\n" + row + " 0\n0 3\n" + entries + ROOT), 3, BEGIN);
            Checks.refuses("a later MANY " + row, with(one + "1 " + row + "\n" + ROOT), 3, BEGIN);
            Checks.refuses("a later FIRST " + row, with(one + row + " 0\n" + ROOT), 3, BEGIN);
            Checks.refuses("FIRST above 200, MANY " + row, with("xref\n300 " + row + "\n" + entries + ROOT), 3, BEGIN);
        }
        Checks.refuses("FIRST alone", with("xref\n300\n" + ROOT), 3, BEGIN);
        Checks.refuses("a later row above 200", with(one + "1 200\n" + ROOT), 5, BEGIN);
        Checks.refuses("above 200, a delimiter behind", with("xref\n0 300/\n" + entries + ROOT), 5, BEGIN);
        Checks.refuses("above 200, a remark behind", with("xref\n0 300%\n" + entries + ROOT), 5, BEGIN);
        Checks.refuses("a delimiter behind FIRST", with("xref\n300/0\n" + entries + ROOT), 3, BEGIN);
        Checks.refuses("digits ahead of trailer", with("xref\n0 3\n" + entries + "1" + ROOT), 3, BEGIN);
        Checks.refuses("MANY and trailer in one row", with("xref\n0 3\n" + entries + "3 0" + ROOT), 3, BEGIN);
    }

    private static void trailers() {
        String head = "xref\n0 3\n0000000000 65535 f \nAAAA 00000 n \nBBBB 00000 n \n";
        Checks.refuses("no Size", with(head + "trailer << /Root 1 0 R >>\n"), 3, BEGIN);
        Checks.refuses("Size 0", with(head + "trailer << /Size 0 /Root 1 0 R >>\n"), 3, BEGIN);
        Checks.refuses("Size a real", with(head + "trailer << /Size 3.0 /Root 1 0 R >>\n"), 3, BEGIN);
        Checks.refuses("Size a reference", with(head + "trailer << /Size 1 0 R /Root 1 0 R >>\n"), 3, BEGIN);
        Checks.refuses("Size not above", with(head + "trailer << /Size 2 /Root 1 0 R >>\n"), 3, BEGIN);
        Checks.refuses("Size 201", with(head + "trailer << /Size 201 /Root 1 0 R >>\n"), 5, BEGIN);
        PaperHouse x = Checks.loads("Size 200", with(head + "trailer << /Size 200 /Root 1 0 R >>\n"), 0);
        Checks.due("Size 200: count(0)", x.count(0), 200);
        Checks.due("Size 200: objects", x.objects(), 2);
        Checks.refuses("Size 1", with("xref\n0 1\n0000000000 65535 f \ntrailer << /Size 1 /Root 1 0 R >>\n"), 10, 0);
        Checks.refuses("Prev below 0", with(head + "trailer << /Size 3 /Root 1 0 R /Prev -1 >>\n"), 3, BEGIN);
        Checks.refuses("Prev 0", with(head + "trailer << /Size 3 /Root 1 0 R /Prev 0 >>\n"), 3, 0);
        Checks.refuses("Prev null", with(head + "trailer << /Size 3 /Root 1 0 R /Prev null >>\n"), 3, BEGIN);
        Checks.refuses("Encrypt", with(head + "trailer << /Size 201 /Encrypt null >>\n"), 9, BEGIN);
        Checks.refuses("XRefStm", with(head + "trailer << /XRefStm 5 >>\n"), 9, BEGIN);
        String entryFault = head.replace("00000 n \nBBBB", "00000 x \nBBBB");
        Checks.refuses("entries ahead of the trailer", with(entryFault + "trailer << /Encrypt 1 >>\n"), 3, BEGIN + 29);
        Checks.refuses("Prev of itself", with(head + "trailer << /Size 3 /Root 1 0 R /Prev " + BEGIN + " >>\n"), 3, BEGIN);
        String far = with(head + "trailer << /Size 3 /Root 1 0 R /Prev 8000 >>\n");
        Checks.refuses("Prev beyond", far, 3, far.length());
        Checks.refuses("Prev elsewhere", with(head + "trailer << /Size 3 /Root 1 0 R /Prev 9 >>\n"), 3, 9);
    }

    private static void elderSections() {
        Files files = Files.empty().object(3, "(old)");
        int elder = files.section("/Size 9 /Root 7 0 R");
        files.object(3, "(newer)");
        int newest = files.section("/Size 4 /Root 1 0 R /Prev " + elder);
        PaperHouse x = Checks.loads("two sections", files.end(newest), 0);
        Checks.due("two: count(3)", x.count(3), 2);
        Checks.due("two: count(5)", x.count(5), newest);
        Checks.due("two: count(0)", x.count(0), 4);
        Checks.due("two: go(3)", x.go(3), 5);
        Checks.due("two: letters", x.here(2), 5);

        Files free = Files.empty().object(3, "(old)").object(4, "nonsense");
        elder = free.section("/Size 9 /Root 7 0 R");
        free.raw("xref\n3 1\n0000000000 00001 f \ntrailer << /Size 4 /Root 1 0 R /Prev " + elder + " >>\n");
        PaperHouse y = Checks.loads("freed", free.end(free.length() - ("xref\n3 1\n0000000000 00001 f \n"
                + "trailer << /Size 4 /Root 1 0 R /Prev " + elder + " >>\n").length()), 0);
        Checks.due("freed: go(3)", y.go(3), -1);
        Checks.due("freed: beyond Size", y.go(4), -1);
        Checks.due("freed: objects", y.objects(), 2);

        Files ten = Files.empty();
        int at = ten.section("/Size 3 /Root 1 0 R");
        for (int i = 2; i <= 10; i++) {
            at = ten.section("/Size 3 /Root 1 0 R /Prev " + at);
        }
        Checks.due("ten: count(3)", Checks.loads("ten", ten.end(at), 0).count(3), 10);
        String file = eleven(9);
        int length = file.length();
        for (int prev : new int[] {0, 9, length - 1, length, length + 1, 7999, 2147483647}) {
            Checks.refuses("the eleventh at " + prev, eleven(prev), 5, Math.min(prev, length));
        }
        int read = Integer.parseInt(file.substring(file.lastIndexOf("startxref") + 10, length - 7));
        Checks.refuses("the eleventh was read", eleven(read), 3, read);
    }

    /** A file of ten sections, the eldest of which tells of one more. */
    private static String eleven(int prev) {
        Files files = Files.empty();
        int at = files.section("/Size 3 /Root 1 0 R /Prev " + String.format("%010d", prev));
        for (int i = 2; i <= 10; i++) {
            at = files.section("/Size 3 /Root 1 0 R /Prev " + String.format("%010d", at));
        }
        return files.end(at);
    }

    private static void entries() {
        Files twice = Files.empty().object(3, "7");
        int place = twice.placeOf(3);
        twice.at(3, 5);
        int begin = twice.length();
        twice.raw(String.format("xref\n0 4\n0000000000 65535 f \n%010d 00000 n \n%010d 00000 n \n%010d 00000 n \n3 1\n"
                + "0000000005 00000 n \ntrailer << /Size 4 /Root 1 0 R >>\n", twice.placeOf(1), twice.placeOf(2), place));
        Checks.due("the first of one section counts", Checks.loads("twice", twice.end(begin), 0).go(3), 2);

        Files zero = Files.empty();
        int at = zero.length();
        zero.raw(String.format("xref\n0 3\n0000000005 00000 n \n%010d 00000 n \n%010d 00000 n \n"
                + "trailer << /Size 3 /Root 1 0 R >>\n", zero.placeOf(1), zero.placeOf(2)));
        Checks.due("object 0 is free always", Checks.loads("zero", zero.end(at), 0).go(0), -1);
    }

    /** A file whose newest section is a row stream, object 3. */
    private static String rows(String entries, String data) {
        return rows("3 0 obj", entries, data, "\nendstream\nendobj\n");
    }

    private static String rows(String head, String entries, String data, String tail) {
        Files files = Files.empty();
        int begin = files.length();
        files.raw(head + "\n<< " + entries + " /Length " + data.length() + " >>\nstream\n" + data + tail);
        return files.end(begin);
    }

    private static String row(int kind, int second, int third) {
        return "" + (char) kind + (char) (second >> 8 & 255) + (char) (second & 255) + (char) third;
    }

    private static final Files PLAIN = Files.empty();
    private static final String DATA = row(0, 0, 255) + row(1, PLAIN.placeOf(1), 0) + row(1, PLAIN.placeOf(2), 0)
            + row(1, BEGIN, 0);
    private static final String TOLD = "/Type /XRef /W [ 1 2 1 ] /Size 4 /Root 1 0 R";

    private static void rowStreams() {
        PaperHouse x = Checks.loads("rows", rows(TOLD, DATA), 0);
        Checks.due("rows: count(4)", x.count(4), 1);
        Checks.due("rows: count(5)", x.count(5), BEGIN);
        Checks.due("rows: objects", x.objects(), 3);
        Checks.due("rows: the stream itself", x.go(3), 9);
        Checks.due("rows: its bytes", Files.data(x, 3), DATA);
        Checks.loads("rows behind white", rows(" %x\n3 0 obj", TOLD, DATA, "endstream endobj "), 0);
        Checks.loads("number 1", rows("1 0 obj", TOLD + " /Index [ 1 2 ]", DATA.substring(4, 12), "\nendstream\nendobj\n"), 0);
        Checks.loads("number 199", rows("199 0 obj", TOLD + " /Index [ 1 2 ]", DATA.substring(4, 12), "\nendstream\nendobj\n"), 0);
        Checks.loads("rows with Index", rows(TOLD + " /Index [ 1 2 ]", DATA.substring(4, 12)), 0);
        Checks.loads("rows with two pairs", rows(TOLD + " /Index [ 2 1 9 0 1 1 ]", DATA.substring(8, 12) + DATA.substring(4, 8)), 0);
        String flate = Files.deflated(DATA);
        Checks.loads("rows of flate", rows(TOLD + " /Filter /FlateDecode", flate), 0);
        String bare = "" + (char) PLAIN.placeOf(1) + (char) PLAIN.placeOf(2);
        Checks.loads("a kind of no bytes", rows("/Type /XRef /W [ 0 1 0 ] /Index [ 1 2 ] /Size 3 /Root 1 0 R", bare), 0);
        Files table = Files.empty();
        int elder = table.section("/Size 3 /Root 1 0 R");
        int begin = table.length();
        table.raw("9 0 obj << /Type /XRef /W [ 1 1 1 ] /Index [ ] /Size 3 /Root 1 0 R /Length 0 /Prev " + elder
                + " >> stream\n\nendstream endobj ");
        PaperHouse y = Checks.loads("rows of none", table.end(begin), 0);
        Checks.due("rows of none: count(3)", y.count(3), 2);
        Checks.due("rows of none: count(4)", y.count(4), 1);
    }

    private static void rowStreamsWrong() {
        Checks.refuses("number 200", rows("200 0 obj", TOLD, DATA, "\nendstream\nendobj\n"), 3, BEGIN);
        Checks.refuses("number 0", rows("0 0 obj", TOLD, DATA, "\nendstream\nendobj\n"), 3, BEGIN);
        Checks.refuses("generation 1", rows("3 1 obj", TOLD, DATA, "\nendstream\nendobj\n"), 3, BEGIN);
        Checks.refuses("no endobj", rows("3 0 obj", TOLD, DATA, "\nendstream\n"), 3, BEGIN);
        Checks.refuses("no endstream", rows("3 0 obj", TOLD, DATA, "\nendobj\n"), 3, BEGIN);
        Checks.refuses("another Type", rows(TOLD.replace("XRef", "XReF"), DATA), 3, BEGIN);
        Checks.refuses("Type ahead of filters", rows(TOLD.replace("XRef", "XReF") + " /Filter null", DATA), 3, BEGIN);
        Checks.refuses("a filter", rows(TOLD + " /Filter null", DATA), 7, BEGIN);
        Checks.refuses("data", rows(TOLD + " /Filter /FlateDecode", DATA), 8, BEGIN);
        Checks.refuses("W of two", rows(TOLD.replace("[ 1 2 1 ]", "[ 1 2 ]"), DATA), 3, BEGIN);
        Checks.refuses("W of 5", rows(TOLD.replace("[ 1 2 1 ]", "[ 1 5 1 ]"), DATA), 3, BEGIN);
        Checks.refuses("no W", rows(TOLD.replace("/W", "/V"), DATA), 3, BEGIN);
        Checks.refuses("no Size", rows(TOLD.replace("/Size", "/Sice"), DATA), 3, BEGIN);
        Checks.refuses("bytes left", rows(TOLD, DATA + "x"), 3, BEGIN);
        Checks.refuses("bytes lacking", rows(TOLD, DATA.substring(1)), 3, BEGIN);
        Checks.refuses("kind 3", rows(TOLD, DATA.replace(row(1, BEGIN, 0), row(3, BEGIN, 0))), 3, BEGIN);
        Checks.refuses("Index odd", rows(TOLD + " /Index [ 0 4 0 ]", DATA), 3, BEGIN);
        Checks.refuses("Index null", rows(TOLD + " /Index null", DATA), 3, BEGIN);
        Checks.refuses("Index below 0", rows(TOLD + " /Index [ 0 4 -1 0 ]", DATA), 3, BEGIN);
        Checks.refuses("Size not above", rows(TOLD.replace("Size 4", "Size 3") + " /Index [ 0 4 ]", DATA), 3, BEGIN);
        Checks.refuses("Encrypt", rows(TOLD + " /Encrypt 1", DATA), 9, BEGIN);
        Checks.refuses("entries ahead of Encrypt", rows(TOLD + " /Encrypt 1", DATA + "x"), 3, BEGIN);
        int dictAt = rows(TOLD, DATA).indexOf("<<", BEGIN);
        Checks.refuses("a token", rows("} " + TOLD, DATA), 4, dictAt + 3);
        Checks.refuses("a name twice", rows("/Type /XRef " + TOLD, DATA), 5, dictAt + 15);
        String length = rows(TOLD, DATA).replace("/Length 16", "/Length 4 0 R");
        Checks.refuses("Length a reference", length, 3, BEGIN);
    }

    private static void rowPairs() {
        Checks.refuses("a pair above 200", rows(TOLD + " /Index [ 1 200 ]", DATA), 5, BEGIN);
        Checks.refuses("a pair of just 200", rows(TOLD + " /Index [ 0 4 200 0 9 191 ]", DATA), 3, BEGIN);
        Checks.loads("a pair at 200", rows(TOLD + " /Index [ 0 4 200 0 ]", DATA), 0);
        Checks.refuses("a pair far above 200", rows(TOLD + " /Index [ 2147483647 2147483647 ]", DATA), 5, BEGIN);
        Checks.refuses("a pair above 200 behind a wrong one", rows(TOLD + " /Index [ 0 5 1 200 ]", DATA), 3, BEGIN);
        Checks.refuses("a pair above 200 behind a good one", rows(TOLD + " /Index [ 0 4 1 200 ]", DATA), 5, BEGIN);
        Checks.refuses("without Index Size above 200", rows(TOLD.replace("Size 4", "Size 201"), DATA), 5, BEGIN);
    }

    private static void aFaultEndsTheDocument() {
        PaperHouse x = Checks.loads("a document", Files.empty().table("/Root 1 0 R"), 0);
        x.go(1);
        Checks.due("a fault", Files.load(x, "nothing"), -101);
        Checks.due("fault(0)", x.fault(0), 1);
        Checks.due("fault(1)", x.fault(1), 0);
        Checks.due("fault(2)", x.fault(2), 0);
        Checks.due("fault(3)", x.fault(3), -1);
        Checks.due("pages", x.pages(), -1);
        Checks.due("here", x.here(0), -1);
        Checks.due("whole", x.whole(), -1);
        Checks.due("a good one again", Files.load(x, Files.empty().table("/Root 1 0 R")), 0);
        Checks.due("the cursor is nowhere", x.here(0), -1);
        Checks.due("count(1)", x.count(1), 1);
        Checks.due("count(2)", x.count(2), 0);
        Checks.due("count(6)", x.count(6), 0);
        Checks.due("count(7)", x.count(7), -1);
        Checks.due("count(-1)", x.count(-1), -1);
    }
}
