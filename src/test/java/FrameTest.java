/** Promises 4, 5 and 14: the file's frame and its sections, and where they are wrong. */
public final class FrameTest {
    public static void main(String[] args) {
        headers();
        starts();
        tables();
        trailers();
        elderSections();
        newestEntries();
        whatCounts();
        entries();
        rowStreams();
        rowStreamsWrong();
        rowPairs();
        aFaultEndsTheDocument();
        headBytes();
        startBytes();
        cutShort();
        beginnings();
        tableBytes();
        entryBytes();
        entryEnds();
        tableNumbers();
        trailerWords();
        trailerOrder();
        trailersOfElders();
        rowHeads();
        rowWidths();
        rowIndexes();
        rowKinds();
        rowSizes();
        rowOrder();
        Checks.end();
    }

    private static void headers() {
        Checks.refuses("nothing", "", 1, 0);
        Checks.refuses("another first byte", "x", 1, 0);
        Checks.refuses("short head", "%PDF-1.", 1, 7);
        Checks.refuses("wrong head", "%PDF-2.0", 1, 5);
        Checks.refuses("version 8", "%PDF-1.8\n", 1, 7);
        for (char version = '0'; version <= '7'; version++) {
            Checks.refuses("version " + version, "%PDF-1." + version, 2, 8);
        }
    }

    private static void starts() {
        String good = Files.empty().table("/Root 1 0 R");
        int start = good.lastIndexOf("startxref");
        int begin = good.indexOf("xref\n");
        Checks.loads("white at the end", good + " \t\f\r\n" + (char) 0, 0);
        Checks.loads("no white at the end", good.substring(0, good.length() - 1), 0);
        Checks.refuses("a remark at the end", good + "%", 2, good.length());
        Checks.refuses("no startxref", good.replace("startxref", "startxre_"), 2, good.length());
        Checks.refuses("only startxref", good.substring(0, start + 9), 2, start + 9);
        Checks.refuses("a remark behind startxref", good.replace("startxref\n", "startxref%\n"), 2, start + 9);
        Checks.refuses("a sign", good.replace("startxref\n", "startxref\n+"), 2, start + 10);
        Checks.refuses("no blank ahead of the end", good.replace("\n%%EOF", "%%EOF"), 2, good.indexOf("%%EOF") - 1);
        Checks.refuses("another end", good.replace("%%EOF", "%%EOR"), 2, good.indexOf("%%EOF") + 4);
        String cutEnd = good.substring(0, good.indexOf("%%EOF") + 3);
        Checks.refuses("half of the end", cutEnd, 2, cutEnd.length());
        Checks.loads("zeros ahead", good.replace("startxref\n", "startxref\n00000000000000"), 0);
        String digits = good.substring(start + 10, good.indexOf("\n%%EOF"));
        Checks.refuses("beyond a whole", good.replace("\n" + digits + "\n", "\n2147483648\n"), 2, start + 10);
        String far = good.replace("\n" + digits + "\n", "\n2147483647\n");
        Checks.refuses("just a whole", far, 3, far.length());
        Checks.loads("two of them", good.replace("startxref", "startxref 7 startxref"), 0);
        Checks.refuses("a section at 0", good.replace("\n" + digits + "\n", "\n0\n"), 3, 0);
        Checks.refuses("no section there", good.replace("\n" + digits + "\n", "\n9\n"), 3, 9);
        Checks.refuses("one byte ahead", good.replace("\n" + digits + "\n", "\n" + (begin - 1) + "\n"), 3, begin - 1);
    }

    /** A file whose table stands there to the letter. */
    private static String with(String table) {
        Files files = Files.empty();
        int begin = files.length();
        return files.raw(table.replace("AAAA", String.format("%010d", files.placeOf(1)))
                .replace("BBBB", String.format("%010d", files.placeOf(2)))).end(begin);
    }

    private static final int BEGIN = Files.empty().length();
    private static final String ROOT = "trailer\n<< /Size 3 /Root 1 0 R >>\n";

    private static void tables() {
        String entries = "0000000000 65535 f \nAAAA 00000 n \nBBBB 00000 n \n";
        Checks.loads("plain", with("xref\n0 3\n" + entries + ROOT), 0);
        Checks.loads("one line", with("xref 0 3\n" + entries + ROOT), 0);
        Checks.loads("a blank behind many", with("xref\n0 3 \n" + entries + ROOT), 0);
        Checks.loads("CR LF", with("xref\r\n0 3\r\n" + entries + ROOT), 0);
        Checks.loads("CR", with("xref\r0 3\r" + entries + ROOT), 0);
        Checks.loads("odd white", with("xref\0\t\n0 \f 3\n" + entries + ROOT), 0);
        Checks.loads("more zeros", with("xref\n00000000000000 000003\n" + entries + ROOT), 0);
        Checks.loads("other ends of entries", with("xref\n0 3\n0000000000 65535 f\r\nAAAA 00000 n \rBBBB 00000 n \n" + ROOT), 0);
        Checks.loads("rows", with("xref\n0 1\n0000000000 65535 f \n1 1\nAAAA 00000 n \n  \n2 1\nBBBB 00000 n \n" + ROOT), 0);
        Checks.loads("an empty row", with("xref\n9 0\n0 3\n" + entries + ROOT), 0);
        Checks.loads("a remark ahead of trailer", with("xref\n0 3\n" + entries + "%x\n" + ROOT), 0);
        Checks.loads("no white ahead of trailer", with("xref\n0 3\n" + entries.replace("BBBB 00000 n \n", "BBBB 00000 n\r\n") + ROOT), 0);
        Checks.refuses("two blanks behind many", with("xref\n0 3  \n" + entries + ROOT), 3, BEGIN);
        Checks.refuses("a tab behind many", with("xref\n0 3\t\n" + entries + ROOT), 3, BEGIN);
        Checks.refuses("a remark behind many", with("xref\n0 3%\n" + entries + ROOT), 3, BEGIN);
        Checks.refuses("a remark ahead of first", with("xref\n%\n0 3\n" + entries + ROOT), 3, BEGIN);
        Checks.refuses("a remark ahead of another first", with("xref\n0 1\n0000000000 65535 f \n%\n1 1\nAAAA 00000 n \n" + ROOT), 3, BEGIN);
        Checks.refuses("no row", with("xref\n" + ROOT), 3, BEGIN);
        Checks.refuses("another word", with("xreff\n0 3\n" + entries + ROOT), 3, BEGIN);
        Checks.refuses("white ahead", with(" xref\n0 3\n" + entries + ROOT), 3, BEGIN);
        Checks.refuses("no trailer", with("xref\n0 3\n" + entries), 3, BEGIN);
        Checks.refuses("trailer of no dict", with("xref\n0 3\n" + entries + "trailer 5 "), 3, BEGIN);
        Checks.refuses("above 200", with("xref\n1 200\n" + entries + ROOT), 5, BEGIN);
        Checks.refuses("far above 200", with("xref\n99999999999999999999 0\n" + entries + ROOT), 5, BEGIN);
        Checks.refuses("just 200", with("xref\n0 200\n" + entries + ROOT), 3, BEGIN + 11 + 60);
        rowsOfDigits(entries);
        String bad = "xref\n0 3\n0000000000 65535 f \nAAAA 0000 nn \nBBBB 00000 n \n" + ROOT;
        Checks.refuses("a wrong entry", with(bad), 3, BEGIN + 29);
        Checks.refuses("an entry of another kind", with("xref\n0 3\n" + entries.replace("00 f", "00 g").replace("35 f", "35 g") + ROOT), 3, BEGIN + 9);
        Checks.refuses("an entry that ends otherwise", with("xref\n0 3\n" + entries.replace(" f \n", " f\n\n") + ROOT), 3, BEGIN + 9);
        Checks.refuses("a trailer of no token", with("xref\n0 3\n" + entries + "trailer\n<< /Size ) >>"), 4, BEGIN + 9 + 60 + 17);
        Checks.refuses("a trailer that has a name twice", with("xref\n0 3\n" + entries + "trailer\n<< /A 1 /A 2 >>"), 5, BEGIN + 9 + 60 + 16);
    }

    /** FIRST and MANY are rows as long as can be: what is no row of digits is not above 200. */
    private static void rowsOfDigits(String entries) {
        String one = "xref\n0 1\n0000000000 65535 f \n";
        for (String row : new String[] {"300x", "x300", "300.", "+300", "-300", "300n", "999999999999x", "300#"}) {
            Checks.refuses("MANY " + row, with("xref\n0 " + row + "\n" + entries + ROOT), 3, BEGIN);
            Checks.refuses("FIRST " + row, with("xref\n" + row + " 0\n0 3\n" + entries + ROOT), 3, BEGIN);
            Checks.refuses("a later MANY " + row, with(one + "1 " + row + "\n" + ROOT), 3, BEGIN);
            Checks.refuses("a later FIRST " + row, with(one + row + " 0\n" + ROOT), 3, BEGIN);
            Checks.refuses("FIRST above 200, MANY " + row, with("xref\n300 " + row + "\n" + entries + ROOT), 3, BEGIN);
        }
        Checks.refuses("FIRST alone", with("xref\n300\n" + ROOT), 3, BEGIN);
        Checks.refuses("a later row above 200", with(one + "1 200\n" + ROOT), 5, BEGIN);
        Checks.refuses("above 200, a delimiter behind", with("xref\n0 300/\n" + entries + ROOT), 5, BEGIN);
        Checks.refuses("above 200, a remark behind", with("xref\n0 300%\n" + entries + ROOT), 5, BEGIN);
        Checks.refuses("a delimiter behind FIRST", with("xref\n300/0\n" + entries + ROOT), 3, BEGIN);
        Checks.refuses("digits ahead of trailer", with("xref\n0 3\n" + entries + "1" + ROOT), 3, BEGIN);
        Checks.refuses("MANY and trailer in one row", with("xref\n0 3\n" + entries + "3 0" + ROOT), 3, BEGIN);
    }

    private static void trailers() {
        String head = "xref\n0 3\n0000000000 65535 f \nAAAA 00000 n \nBBBB 00000 n \n";
        Checks.refuses("no Size", with(head + "trailer << /Root 1 0 R >>\n"), 3, BEGIN);
        Checks.refuses("Size 0", with(head + "trailer << /Size 0 /Root 1 0 R >>\n"), 3, BEGIN);
        Checks.refuses("Size a real", with(head + "trailer << /Size 3.0 /Root 1 0 R >>\n"), 3, BEGIN);
        Checks.refuses("Size a reference", with(head + "trailer << /Size 1 0 R /Root 1 0 R >>\n"), 3, BEGIN);
        Checks.refuses("Size not above", with(head + "trailer << /Size 2 /Root 1 0 R >>\n"), 3, BEGIN);
        Checks.refuses("Size 201", with(head + "trailer << /Size 201 /Root 1 0 R >>\n"), 5, BEGIN);
        House x = Checks.loads("Size 200", with(head + "trailer << /Size 200 /Root 1 0 R >>\n"), 0);
        Checks.due("Size 200: count(0)", x.count(0), 200);
        Checks.due("Size 200: objects", x.objects(), 2);
        Checks.refuses("Size 1", with("xref\n0 1\n0000000000 65535 f \ntrailer << /Size 1 /Root 1 0 R >>\n"), 10, 0);
        Checks.refuses("Prev below 0", with(head + "trailer << /Size 3 /Root 1 0 R /Prev -1 >>\n"), 3, BEGIN);
        Checks.refuses("Prev 0", with(head + "trailer << /Size 3 /Root 1 0 R /Prev 0 >>\n"), 3, 0);
        Checks.refuses("Prev null", with(head + "trailer << /Size 3 /Root 1 0 R /Prev null >>\n"), 3, BEGIN);
        Checks.refuses("Encrypt", with(head + "trailer << /Size 201 /Encrypt null >>\n"), 9, BEGIN);
        Checks.refuses("XRefStm", with(head + "trailer << /XRefStm 5 >>\n"), 9, BEGIN);
        String entryFault = head.replace("00000 n \nBBBB", "00000 x \nBBBB");
        Checks.refuses("entries ahead of the trailer", with(entryFault + "trailer << /Encrypt 1 >>\n"), 3, BEGIN + 29);
        Checks.refuses("Prev of itself", with(head + "trailer << /Size 3 /Root 1 0 R /Prev " + BEGIN + " >>\n"), 3, BEGIN);
        String far = with(head + "trailer << /Size 3 /Root 1 0 R /Prev 8000 >>\n");
        Checks.refuses("Prev beyond", far, 3, far.length());
        Checks.refuses("Prev elsewhere", with(head + "trailer << /Size 3 /Root 1 0 R /Prev 9 >>\n"), 3, 9);
    }

    private static void elderSections() {
        Files files = Files.empty().object(3, "(old)");
        int elder = files.section("/Size 9 /Root 7 0 R");
        files.object(3, "(newer)");
        int newest = files.section("/Size 4 /Root 1 0 R /Prev " + elder);
        House x = Checks.loads("two sections", files.end(newest), 0);
        Checks.due("two: count(3)", x.count(3), 2);
        Checks.due("two: count(5)", x.count(5), newest);
        Checks.due("two: count(0)", x.count(0), 4);
        Checks.due("two: go(3)", x.go(3), 5);
        Checks.due("two: letters", x.here(2), 5);

        Files free = Files.empty().object(3, "(old)").object(4, "nonsense");
        elder = free.section("/Size 9 /Root 7 0 R");
        free.raw("xref\n3 1\n0000000000 00001 f \ntrailer << /Size 4 /Root 1 0 R /Prev " + elder + " >>\n");
        House y = Checks.loads("freed", free.end(free.length() - ("xref\n3 1\n0000000000 00001 f \n"
                + "trailer << /Size 4 /Root 1 0 R /Prev " + elder + " >>\n").length()), 0);
        Checks.due("freed: go(3)", y.go(3), -1);
        Checks.due("freed: beyond Size", y.go(4), -1);
        Checks.due("freed: objects", y.objects(), 2);

        Files ten = Files.empty();
        int at = ten.section("/Size 3 /Root 1 0 R");
        for (int i = 2; i <= 10; i++) {
            at = ten.section("/Size 3 /Root 1 0 R /Prev " + at);
        }
        Checks.due("ten: count(3)", Checks.loads("ten", ten.end(at), 0).count(3), 10);
        String file = eleven(9);
        int length = file.length();
        for (int prev : new int[] {0, 9, length - 1, length, length + 1, 7999, 2147483647}) {
            Checks.refuses("the eleventh at " + prev, eleven(prev), 5, Math.min(prev, length));
        }
        int read = Integer.parseInt(file.substring(file.lastIndexOf("startxref") + 10, length - 7));
        Checks.refuses("the eleventh was read", eleven(read), 3, read);
    }

    /** A file of ten sections, the eldest of which tells of one more. */
    private static String eleven(int prev) {
        Files files = Files.empty();
        int at = files.section("/Size 3 /Root 1 0 R /Prev " + String.format("%010d", prev));
        for (int i = 2; i <= 10; i++) {
            at = files.section("/Size 3 /Root 1 0 R /Prev " + String.format("%010d", at));
        }
        return files.end(at);
    }

    /** The newest entry counts, of whatever kind the sections are; a newer one frees, or brings back. */
    private static void newestEntries() {
        Files files = Files.empty().object(3, "(old)").object(4, "(four)");
        int elder = files.section("/Size 5 /Root 1 0 R");
        int four = files.length();
        files.raw("4 0 obj (new) endobj ");
        int rows = files.length();
        files.raw("9 0 obj << /Type /XRef /W [ 1 2 1 ] /Index [ 3 2 ] /Size 5 /Root 1 0 R /Prev " + elder + " /Length 8 >> stream\n"
                + row(0, 0, 0) + row(1, four, 0) + "\nendstream endobj ");
        House x = Checks.loads("rows over a table", files.end(rows), 0);
        Checks.due("3 is free", x.go(3), -1);
        Checks.due("4 is the new one", x.go(4) * 10 + x.here(2), 53);
        int three = files.length();
        files.raw("3 7 obj (three) endobj ");
        int table = files.length();
        files.raw(String.format("xref\n3 1\n%010d 00007 n \ntrailer << /Size 5 /Root 1 0 R /Prev " + rows + " >>\n", three));
        House y = Checks.loads("a table over rows", files.end(table), 0);
        Checks.due("3 is back", y.go(3) * 10 + y.here(2), 55);
        Checks.due("4 is the new one still", y.go(4) * 10 + y.here(2), 53);
        Checks.due("sections", y.count(3), 3);
        int five = files.length();
        files.raw("5 0 obj /Five endobj ");
        int last = files.length();
        files.raw("9 0 obj << /Type /XRef /W [ 1 2 1 ] /Index [ 5 1 ] /Size 6 /Root 1 0 R /Prev " + table + " /Length 4 >> stream\n"
                + row(1, five, 0) + "\nendstream endobj ");
        House z = Checks.loads("rows over a table over rows", files.end(last), 0);
        Checks.due("5 is there, above the Size of elder sections", z.go(5) * 10 + z.here(2), 44);
        Checks.due("3 is there", z.go(3) * 10 + z.here(2), 55);
        Checks.due("4 is there", z.go(4) * 10 + z.here(2), 53);
        Checks.due("four sections", z.count(3), 4);
        Checks.due("Size", z.count(0), 6);
        int again = files.length();
        files.raw("9 0 obj << /Type /XRef /W [ 0 2 0 ] /Index [ 6 1 ] /Size 7 /Root 1 0 R /Prev " + last + " /Length 2 >> stream\n"
                + row(0, five, 0).substring(1, 3) + "\nendstream endobj ");
        Checks.refuses("rows over rows", files.end(again), 6, five);
        Checks.due("the newest is a table", y.count(4), 0);
        Checks.due("its place", y.count(5), table);
    }

    private static void counts(String what, House x, int... want) {
        for (int i = 0; i < 7; i++) {
            Checks.due(what + ": count(" + i + ")", x.count(i), want[i]);
        }
        for (int i : new int[] {-2147483648, -1, 7, 8, 2147483647}) {
            Checks.due(what + ": count(" + i + ")", x.count(i), -1);
        }
    }

    /** All that count() tells, of a table, of rows, with Info and without, and behind changes. */
    private static void whatCounts() {
        House x = Checks.loads("a table", Files.paged().table("/Root 1 0 R"), 1);
        int place = Files.paged().length();
        counts("a table", x, 4, 1, 0, 1, 0, place, 0);
        x.insert(0, 1, 1);
        counts("behind insert", x, 5, 1, 0, 1, 0, place, 2);
        Files.info(x, 0, "t");
        counts("behind info", x, 6, 1, 5, 1, 0, place, 3);
        Files.contents(x, 1, "S");
        counts("behind contents", x, 7, 1, 5, 1, 0, place, 5);
        x.turn(0, 90);
        counts("behind turn", x, 7, 1, 5, 1, 0, place, 5);
        x.delete(0);
        counts("behind delete", x, 7, 1, 5, 1, 0, place, 5);
        Checks.due("objects", x.objects(), 6);
        int more = x.more();
        x.take();
        Checks.due("it loads", x.load(), 1);
        counts("of two sections", x, 7, 1, 5, 2, 0, x.count(5), 0);
        Checks.due("the newest one's place", x.count(5) > place && x.count(5) < more, true);
        counts("rows", Checks.loads("rows", rows(TOLD, DATA), 0), 4, 1, 0, 1, 1, BEGIN, 0);
        counts("rows with Info", Checks.loads("rows with Info", rows(TOLD + " /Info 1 0 R", DATA), 0), 4, 1, 1, 1, 1, BEGIN, 0);
        counts("Size 200", Checks.loads("Size 200", Files.paged().table("/Root 1 0 R", 200), 1), 200, 1, 0, 1, 0, place, 0);
    }

    private static void entries() {
        Files twice = Files.empty().object(3, "7");
        int place = twice.placeOf(3);
        twice.at(3, 5);
        int begin = twice.length();
        twice.raw(String.format("xref\n0 4\n0000000000 65535 f \n%010d 00000 n \n%010d 00000 n \n%010d 00000 n \n3 1\n"
                + "0000000005 00000 n \ntrailer << /Size 4 /Root 1 0 R >>\n", twice.placeOf(1), twice.placeOf(2), place));
        Checks.due("the first of one section counts", Checks.loads("twice", twice.end(begin), 0).go(3), 2);

        Files zero = Files.empty();
        int at = zero.length();
        zero.raw(String.format("xref\n0 3\n0000000005 00000 n \n%010d 00000 n \n%010d 00000 n \n"
                + "trailer << /Size 3 /Root 1 0 R >>\n", zero.placeOf(1), zero.placeOf(2)));
        Checks.due("object 0 is free always", Checks.loads("zero", zero.end(at), 0).go(0), -1);
    }

    /** A file whose newest section is a row stream, object 3. */
    private static String rows(String entries, String data) {
        return rows("3 0 obj", entries, data, "\nendstream\nendobj\n");
    }

    private static String rows(String head, String entries, String data, String tail) {
        Files files = Files.empty();
        int begin = files.length();
        files.raw(head + "\n<< " + entries + " /Length " + data.length() + " >>\nstream\n" + data + tail);
        return files.end(begin);
    }

    private static String row(int kind, int second, int third) {
        return "" + (char) kind + (char) (second >> 8 & 255) + (char) (second & 255) + (char) third;
    }

    private static final Files PLAIN = Files.empty();
    private static final String DATA = row(0, 0, 255) + row(1, PLAIN.placeOf(1), 0) + row(1, PLAIN.placeOf(2), 0)
            + row(1, BEGIN, 0);
    private static final String TOLD = "/Type /XRef /W [ 1 2 1 ] /Size 4 /Root 1 0 R";

    private static void rowStreams() {
        House x = Checks.loads("rows", rows(TOLD, DATA), 0);
        Checks.due("rows: count(4)", x.count(4), 1);
        Checks.due("rows: count(5)", x.count(5), BEGIN);
        Checks.due("rows: objects", x.objects(), 3);
        Checks.due("rows: the stream itself", x.go(3), 9);
        Checks.due("rows: its bytes", Files.data(x, 3), DATA);
        Checks.loads("rows behind white", rows(" %x\n3 0 obj", TOLD, DATA, "endstream endobj "), 0);
        Checks.loads("number 1", rows("1 0 obj", TOLD + " /Index [ 1 2 ]", DATA.substring(4, 12), "\nendstream\nendobj\n"), 0);
        Checks.loads("number 199", rows("199 0 obj", TOLD + " /Index [ 1 2 ]", DATA.substring(4, 12), "\nendstream\nendobj\n"), 0);
        Checks.loads("rows with Index", rows(TOLD + " /Index [ 1 2 ]", DATA.substring(4, 12)), 0);
        Checks.loads("rows with two pairs", rows(TOLD + " /Index [ 2 1 9 0 1 1 ]", DATA.substring(8, 12) + DATA.substring(4, 8)), 0);
        String flate = Files.deflated(DATA);
        Checks.loads("rows of flate", rows(TOLD + " /Filter /FlateDecode", flate), 0);
        String bare = "" + (char) PLAIN.placeOf(1) + (char) PLAIN.placeOf(2);
        Checks.loads("a kind of no bytes", rows("/Type /XRef /W [ 0 1 0 ] /Index [ 1 2 ] /Size 3 /Root 1 0 R", bare), 0);
        Files table = Files.empty();
        int elder = table.section("/Size 3 /Root 1 0 R");
        int begin = table.length();
        table.raw("9 0 obj << /Type /XRef /W [ 1 1 1 ] /Index [ ] /Size 3 /Root 1 0 R /Length 0 /Prev " + elder
                + " >> stream\n\nendstream endobj ");
        House y = Checks.loads("rows of none", table.end(begin), 0);
        Checks.due("rows of none: count(3)", y.count(3), 2);
        Checks.due("rows of none: count(4)", y.count(4), 1);
    }

    private static void rowStreamsWrong() {
        Checks.refuses("number 200", rows("200 0 obj", TOLD, DATA, "\nendstream\nendobj\n"), 3, BEGIN);
        Checks.refuses("number 0", rows("0 0 obj", TOLD, DATA, "\nendstream\nendobj\n"), 3, BEGIN);
        Checks.refuses("generation 1", rows("3 1 obj", TOLD, DATA, "\nendstream\nendobj\n"), 3, BEGIN);
        Checks.refuses("no endobj", rows("3 0 obj", TOLD, DATA, "\nendstream\n"), 3, BEGIN);
        Checks.refuses("no endstream", rows("3 0 obj", TOLD, DATA, "\nendobj\n"), 3, BEGIN);
        Checks.refuses("another Type", rows(TOLD.replace("XRef", "XReF"), DATA), 3, BEGIN);
        Checks.refuses("Type ahead of filters", rows(TOLD.replace("XRef", "XReF") + " /Filter null", DATA), 3, BEGIN);
        Checks.refuses("a filter", rows(TOLD + " /Filter null", DATA), 7, BEGIN);
        Checks.refuses("data", rows(TOLD + " /Filter /FlateDecode", DATA), 8, BEGIN);
        Checks.refuses("W of two", rows(TOLD.replace("[ 1 2 1 ]", "[ 1 2 ]"), DATA), 3, BEGIN);
        Checks.refuses("W of 5", rows(TOLD.replace("[ 1 2 1 ]", "[ 1 5 1 ]"), DATA), 3, BEGIN);
        Checks.refuses("no W", rows(TOLD.replace("/W", "/V"), DATA), 3, BEGIN);
        Checks.refuses("no Size", rows(TOLD.replace("/Size", "/Sice"), DATA), 3, BEGIN);
        Checks.refuses("bytes left", rows(TOLD, DATA + "x"), 3, BEGIN);
        Checks.refuses("bytes lacking", rows(TOLD, DATA.substring(1)), 3, BEGIN);
        Checks.refuses("kind 3", rows(TOLD, DATA.replace(row(1, BEGIN, 0), row(3, BEGIN, 0))), 3, BEGIN);
        Checks.refuses("Index odd", rows(TOLD + " /Index [ 0 4 0 ]", DATA), 3, BEGIN);
        Checks.refuses("Index null", rows(TOLD + " /Index null", DATA), 3, BEGIN);
        Checks.refuses("Index below 0", rows(TOLD + " /Index [ 0 4 -1 0 ]", DATA), 3, BEGIN);
        Checks.refuses("Size not above", rows(TOLD.replace("Size 4", "Size 3") + " /Index [ 0 4 ]", DATA), 3, BEGIN);
        Checks.refuses("Encrypt", rows(TOLD + " /Encrypt 1", DATA), 9, BEGIN);
        Checks.refuses("entries ahead of Encrypt", rows(TOLD + " /Encrypt 1", DATA + "x"), 3, BEGIN);
        int dictAt = rows(TOLD, DATA).indexOf("<<", BEGIN);
        Checks.refuses("a token", rows("} " + TOLD, DATA), 4, dictAt + 3);
        Checks.refuses("a name twice", rows("/Type /XRef " + TOLD, DATA), 5, dictAt + 15);
        String length = rows(TOLD, DATA).replace("/Length 16", "/Length 4 0 R");
        Checks.refuses("Length a reference", length, 3, BEGIN);
    }

    private static void rowPairs() {
        Checks.refuses("a pair above 200", rows(TOLD + " /Index [ 1 200 ]", DATA), 5, BEGIN);
        Checks.refuses("a pair of just 200", rows(TOLD + " /Index [ 0 4 200 0 9 191 ]", DATA), 3, BEGIN);
        Checks.loads("a pair at 200", rows(TOLD + " /Index [ 0 4 200 0 ]", DATA), 0);
        Checks.refuses("a pair far above 200", rows(TOLD + " /Index [ 2147483647 2147483647 ]", DATA), 5, BEGIN);
        Checks.refuses("a pair above 200 behind a wrong one", rows(TOLD + " /Index [ 0 5 1 200 ]", DATA), 3, BEGIN);
        Checks.refuses("a pair above 200 behind a good one", rows(TOLD + " /Index [ 0 4 1 200 ]", DATA), 5, BEGIN);
        Checks.refuses("without Index Size above 200", rows(TOLD.replace("Size 4", "Size 201"), DATA), 5, BEGIN);
    }

    private static void aFaultEndsTheDocument() {
        House x = Checks.loads("a document", Files.empty().table("/Root 1 0 R"), 0);
        x.go(1);
        Checks.due("a fault", Files.load(x, "nothing"), -101);
        Checks.due("fault(0)", x.fault(0), 1);
        Checks.due("fault(1)", x.fault(1), 0);
        Checks.due("fault(2)", x.fault(2), 0);
        Checks.due("fault(3)", x.fault(3), -1);
        Checks.due("pages", x.pages(), -1);
        Checks.due("here", x.here(0), -1);
        Checks.due("whole", x.whole(), -1);
        Checks.due("a good one again", Files.load(x, Files.empty().table("/Root 1 0 R")), 0);
        Checks.due("the cursor is nowhere", x.here(0), -1);
        Checks.due("count(1)", x.count(1), 1);
        Checks.due("count(2)", x.count(2), 0);
        Checks.due("count(6)", x.count(6), 0);
        Checks.due("count(7)", x.count(7), -1);
        Checks.due("count(-1)", x.count(-1), -1);
    }

    private static final String GOOD = Files.empty().table("/Root 1 0 R");
    private static final String WHITE = "\0\t\n\f\r ";

    private static void headBytes() {
        for (int i = 0; i < 7; i++) {
            for (char c : new char[] {(char) (GOOD.charAt(i) + 1), (char) (GOOD.charAt(i) - 1), '\0', '\u00ff'}) {
                Checks.refuses("head byte " + i, GOOD.substring(0, i) + c + GOOD.substring(i + 1), 1, i);
            }
            Checks.refuses("a head of " + i, GOOD.substring(0, i), 1, i);
        }
        for (int c = 0; c < 256; c++) {
            String file = GOOD.substring(0, 7) + (char) c + GOOD.substring(8);
            if (c >= '0' && c <= '7') {
                Checks.loads("version " + c, file, 0);
            } else {
                Checks.refuses("version " + c, file, 1, 7);
            }
        }
        Checks.refuses("white ahead of the head", " " + GOOD, 1, 0);
    }

    /** Each byte ahead of, within and behind what must stand behind startxref. */
    private static void startBytes() {
        int digitsAt = GOOD.lastIndexOf("startxref") + 10;
        int end = GOOD.lastIndexOf("%%EOF");
        String digits = GOOD.substring(digitsAt, end - 1);
        String head = GOOD.substring(0, digitsAt - 1);
        for (int c = 0; c < 256; c++) {
            boolean white = WHITE.indexOf(c) >= 0;
            boolean digit = c >= '0' && c <= '9';
            started("one byte behind startxref", head + (char) c + digits + " %%EOF", white, digitsAt - 1);
            started("behind the digits", head + " " + digits + (char) c + "%%EOF", white, end - (digit ? 0 : 1));
            started("two bytes behind the digits", head + " " + digits + " " + (char) c + "%%EOF", white, c == '%' ? end + 2 : end);
            started("behind the end", head + " " + digits + " %%EOF" + (char) c, white, end + 5);
            started("two bytes behind the end", head + " " + digits + " %%EOF\n" + (char) c, white, end + 6);
            if (!digit) {
                started("two bytes behind startxref", head + " " + (char) c + digits + " %%EOF", white, digitsAt);
            }
        }
        for (int i = 0; i < 5; i++) {
            Checks.refuses("end byte " + i, GOOD.substring(0, end + i) + "x" + GOOD.substring(end + i + 1), 2, end + i);
        }
        Checks.refuses("no digits", head + "\n\n%%EOF", 2, digitsAt + 1);
        Checks.refuses("digits and a sign", head + "\n" + digits + "+ %%EOF", 2, end - 1);
        Checks.refuses("far beyond a whole", head + "\n99999999999999999999999 %%EOF", 2, digitsAt);
        Checks.refuses("beyond a whole, zeros ahead", head + "\n0002147483648 %%EOF", 2, digitsAt);
        Checks.refuses("the last one counts", GOOD + "startxref", 2, GOOD.length() + 9);
        Checks.refuses("within a row, too", GOOD + "xstartxrefx", 2, GOOD.length() + 10);
    }

    private static void started(String what, String file, boolean good, int place) {
        if (good) {
            Checks.loads(what, file, 0);
        } else {
            Checks.refuses(what, file, 2, place);
        }
    }

    /** A file that ends too early is wrong at its end. */
    private static void cutShort() {
        int end = GOOD.lastIndexOf("%%EOF") + 5;
        for (int length = 8; length <= GOOD.length(); length++) {
            started("a file of " + length, GOOD.substring(0, length), length >= end, length);
        }
        String full = GOOD + Files.repeat(" ", 8000 - GOOD.length());
        Checks.loads("a file of 8000", full, 0);
        Checks.refuses("another of 8000", full.substring(0, 7999) + "x", 2, 7999);
    }

    private static void beginnings() {
        String file = startingAt("0000000000");
        for (int more = -1; more <= 1; more++) {
            String other = startingAt(String.format("%010d", file.length() + more));
            Checks.refuses("a beginning at the end and " + more, other, 3, file.length() + Math.min(0, more));
        }
        Checks.loads("zeros ahead of a good one", startingAt(String.format("%010d", BEGIN)), 0);
        Checks.refuses("one byte behind", startingAt(String.format("%010d", BEGIN + 1)), 3, BEGIN + 1);
    }

    private static String startingAt(String digits) {
        Files files = Files.empty();
        files.section("/Size 3 /Root 1 0 R");
        return files.end(0).replace("startxref\n0\n", "startxref\n" + digits + "\n");
    }

    private static final String ENTRIES = "0000000000 65535 f \nAAAA 00000 n \nBBBB 00000 n \n";

    /** Each byte behind xref, behind FIRST, behind MANY and behind the blank there. */
    private static void tableBytes() {
        for (int c = 0; c < 256; c++) {
            boolean white = WHITE.indexOf(c) >= 0;
            boolean digit = c >= '0' && c <= '9';
            tabled("behind xref " + c, "xref" + (char) c + "0 3\n", white, BEGIN);
            tabled("behind FIRST " + c, "xref\n0" + (char) c + "3\n", white, BEGIN);
            tabled("ahead of FIRST " + c, "xref\n" + (char) c + "0 3\n", white || c == '0', BEGIN);
            tabled("behind MANY " + c, "xref\n0 3" + (char) c + "\n", c == 32 || c == 13, digit ? BEGIN + 70 : c == 10 ? BEGIN + 9 : BEGIN);
            tabled("behind the blank " + c, "xref\n0 3 " + (char) c + "\n", c == 13, c == 10 ? BEGIN + 10 : BEGIN);
        }
        for (String remark : new String[] {"%\n", "%x\r", " %\n ", "\n% 0 3\n"}) {
            Checks.refuses("a remark ahead of FIRST " + remark, with("xref" + remark + "0 3\n" + ENTRIES + ROOT), 3, BEGIN);
            Checks.refuses("a remark behind FIRST " + remark, with("xref\n0" + remark + "3\n" + ENTRIES + ROOT), 3, BEGIN);
            Checks.refuses("a remark behind MANY " + remark, with("xref\n0 3" + remark + "\n" + ENTRIES + ROOT), 3,
                    remark.startsWith("\n") ? BEGIN + 9 : BEGIN);
            Checks.refuses("a remark ahead of a later FIRST " + remark, with("xref\n0 3\n" + ENTRIES + remark + "5 0\n" + ROOT), 3, BEGIN);
            Checks.loads("a remark ahead of trailer " + remark, with("xref\n0 3\n" + ENTRIES + remark + ROOT), 0);
        }
        Checks.loads("a blank and CR", with("xref\n0 3 \r" + ENTRIES + ROOT), 0);
        Checks.refuses("no EOL", with("xref\n0 3 " + ENTRIES + ROOT), 3, BEGIN);
        Checks.refuses("LF CR", with("xref\n0 3\n\r" + ENTRIES + ROOT), 3, BEGIN + 9);
    }

    private static void tabled(String what, String head, boolean good, int place) {
        String file = with(head + ENTRIES + ROOT);
        if (good) {
            Checks.loads(what, file, 0);
        } else {
            Checks.refuses(what, file, 3, place);
        }
    }

    /** Each byte of an entry that may not be so: the fault is at the entry's beginning. */
    private static void entryBytes() {
        String entry = String.format("%010d 00000 n \n", PLAIN.placeOf(2));
        int place = BEGIN + 9 + 40;
        for (int i = 0; i < 18; i++) {
            boolean blank = i == 10 || i == 16;
            String wrong = blank ? "\t\r\n0.x\0%" : i == 17 ? "NFemog \0" : "/: +-.a\n";
            for (char c : wrong.toCharArray()) {
                Checks.refuses("byte " + i + " of an entry is " + (int) c, with("xref\n0 3\n" + ENTRIES.substring(0, 20)
                        + "AAAA 00000 n \n" + entry.substring(0, i) + c + entry.substring(i + 1) + ROOT), 3, place);
            }
        }
        Checks.refuses("the first one that is wrong", with("xref\n0 3\n" + ENTRIES.replace(" n ", " N ") + ROOT), 3, BEGIN + 29);
        Checks.refuses("an entry too few", with("xref\n0 4\n" + ENTRIES + ROOT), 3, BEGIN + 69);
        Checks.refuses("an entry too many", with("xref\n0 2\n" + ENTRIES + ROOT), 3, BEGIN);
        Checks.refuses("a later row's entry", with("xref\n0 3\n" + ENTRIES + "5 1\n0000000000 00000 x \n" + ROOT), 3, BEGIN + 73);
    }

    private static void entryEnds() {
        char[] bytes = {0, 9, 10, 12, 13, 32, 'x', '0'};
        for (char one : bytes) {
            for (char two : bytes) {
                boolean good = one == 32 && (two == 13 || two == 10) || one == 13 && two == 10;
                String file = with("xref\n0 3\n" + ENTRIES.substring(0, 20) + "AAAA 00000 n" + one + two + "BBBB 00000 n \n" + ROOT);
                if (good) {
                    Checks.loads("an entry's end " + (int) one + " " + (int) two, file, 0);
                } else {
                    Checks.refuses("an entry's end " + (int) one + " " + (int) two, file, 3, BEGIN + 29);
                }
            }
        }
    }

    /** FIRST and MANY at their edges; numbers in entries of both kinds are below Size. */
    private static void tableNumbers() {
        String start = "xref\n0 3\n" + ENTRIES;
        String free = "0000000000 00000 f \n";
        Checks.loads("200 and none", with(start + "200 0\n" + ROOT), 0);
        Checks.refuses("201 and none", with(start + "201 0\n" + ROOT), 5, BEGIN);
        Checks.refuses("0 and 201", with("xref\n0 201\n" + ENTRIES + ROOT), 5, BEGIN);
        Checks.refuses("199 and 2", with(start + "199 2\n" + free + free + ROOT), 5, BEGIN);
        Checks.refuses("none and beyond all", with(start + "0 99999999999999999999999\n" + ROOT), 5, BEGIN);
        Checks.refuses("both beyond all", with(start + "4294967296 4294967296\n" + ROOT), 5, BEGIN);
        String all = "xref\n0 200\n" + ENTRIES + Files.repeat(free, 197);
        House x = Checks.loads("all 200", with(all + ROOT.replace("Size 3", "Size 200")), 0);
        Checks.due("all 200: Size", x.count(0), 200);
        Checks.due("all 200: objects", x.objects(), 2);
        Checks.refuses("all 200 and Size 199", with(all + ROOT.replace("Size 3", "Size 199")), 3, BEGIN);
        Checks.loads("199 and 1", with(start + "199 1\n" + free + ROOT.replace("Size 3", "Size 200")), 0);
        Checks.refuses("a free one of Size", with(start + "3 1\n" + free + ROOT), 3, BEGIN);
        Checks.loads("a free one below Size", with(start + "3 1\n" + free + ROOT.replace("Size 3", "Size 4")), 0);
        Checks.refuses("Root's object is free", with(start.replace("AAAA 00000 n", "AAAA 00000 f") + ROOT), 10, 0);
        Checks.refuses("free first", with("xref\n1 1\n" + free + "0 3\n" + ENTRIES + ROOT), 10, 0);
        Checks.refuses("a place of ten digits", with(start + "3 1\n9999999999 00000 n \n" + ROOT.replace("Size 3", "Size 4")), 6,
                with(start + "3 1\n9999999999 00000 n \n" + ROOT).length());
    }

    private static void trailerWords() {
        String start = "xref\n0 3\n" + ENTRIES;
        Checks.loads("a delimiter behind trailer", with(start + "trailer<</Size 3/Root 1 0 R>>"), 0);
        for (String word : new String[] {"trailerx", "Trailer", "traile", "trailer1", "t"}) {
            Checks.refuses("the word " + word, with(start + word + " << /Size 3 /Root 1 0 R >>\n"), 3, BEGIN);
        }
        for (String other : new String[] {"[ ]", "/A", "(a)", "5", "1 0 R", "null", "true", "1.5"}) {
            Checks.refuses("trailer " + other, with(start + "trailer " + other + " "), 3, BEGIN);
        }
        Checks.refuses("a trailer's token", with(start + "trailer << /A ] >>"), 4, BEGIN + 69 + 14);
        Checks.refuses("a trailer's limit", with(start + "trailer << /A 99999999999 >>"), 5, BEGIN + 69 + 14);
        Checks.refuses("a trailer's 21st", with(start + "trailer << /A " + Files.repeat("[", 20) + " >>"), 5, BEGIN + 69 + 14 + 19);
        Checks.loads("what stands behind the trailer is free", with(start + ROOT + ") x << "), 0);
    }

    private static void trailerOrder() {
        String head = "xref\n0 3\n" + ENTRIES + "trailer << /Root 1 0 R ";
        String[][] told = {
            {"/Size 3 /Encrypt 5", "9"}, {"/Size 3 /XRefStm 5", "9"}, {"/Size 3 /XRefStm null", "9"}, {"/Size 3 /Encrypt 7 0 R", "9"},
            {"/Size 0 /Encrypt 5", "9"}, {"/Size 201 /XRefStm 5", "9"}, {"/Encrypt 5", "9"}, {"/Prev -1 /Size 3 /Encrypt 5", "9"},
            {"/Size 201 /Prev -1", "5"}, {"/Prev (x) /Size 2147483647", "5"}, {"/Size -1", "3"}, {"/Size -201", "3"}, {"/Size 2", "3"},
            {"/Size (x)", "3"}, {"/Size null", "3"}, {"/Size 3.0", "3"}, {"/Size [ 3 ]", "3"}, {"/Size 2 0 R", "3"},
            {"/Size 3 /Prev -1", "3"}, {"/Size 3 /Prev 1.0", "3"}, {"/Size 3 /Prev 2 0 R", "3"}, {"/Size 3 /Prev (x)", "3"},
            {"/Size 3 /Prev " + BEGIN, "3"}};
        for (String[] one : told) {
            Checks.refuses("trailer " + one[0], with(head + one[0] + " >>"), Integer.parseInt(one[1]), BEGIN);
        }
        String far = with(head + "/Size 3 /Prev 2147483647 >>");
        Checks.refuses("Prev far outside", far, 3, far.length());
        Checks.loads("Size at its least", with(head + "/Size 3 >>"), 0);
        Checks.refuses("an entry ahead of Size", with(head.replace("00000 n", "00000 N") + "/Size 201 >>"), 3, BEGIN + 29);
    }

    /** A file whose newest section is good, and whose elder one has that trailer. */
    private static void elder(String trailer, int fault) {
        Files files = Files.empty();
        int first = files.section(trailer);
        int second = files.section("/Size 3 /Root 1 0 R /Prev " + first);
        if (fault == 0) {
            Checks.due("elder " + trailer + ": Info", Checks.loads("elder " + trailer, files.end(second), 0).count(2), 0);
        } else {
            Checks.refuses("elder " + trailer, files.end(second), fault, first);
        }
    }

    private static void trailersOfElders() {
        elder("/Size 3", 0);
        elder("/Size 3 /Root 9 0 R /Info 1 0 R", 0);
        elder("/Size 3 /Encrypt 1", 9);
        elder("/Size 3 /XRefStm 1", 9);
        elder("/Size 201", 5);
        elder("/Size 2", 3);
        elder("/Size 3 /Prev -1", 3);
        elder("/Size 3 /Prev " + BEGIN, 3);
        Files ring = Files.empty();
        int first = ring.section("/Size 3 /Prev 0000000000");
        int second = ring.section("/Size 3 /Root 1 0 R /Prev " + first);
        String file = ring.end(second).replace("/Prev 0000000000", String.format("/Prev %010d", second));
        Checks.refuses("a ring of sections", file, 3, second);
        Files of = Files.empty();
        first = of.section("/Size 3 /A )");
        second = of.section("/Size 3 /Root 1 0 R /Prev " + first);
        String wrong = of.end(second);
        Checks.refuses("an elder's token", wrong, 4, wrong.indexOf(")"));
        Files table = Files.empty();
        int begin = table.length();
        table.raw("9 0 obj << /Type /XRef /W [ 1 1 1 ] /Size 3 /Length 1 /Filter /FlateDecode >> stream\nx\nendstream endobj ");
        second = table.section("/Size 3 /Root 1 0 R /Prev " + begin);
        Checks.refuses("an elder's data", table.end(second), 8, begin);
    }

    private static final String TAIL = "\nendstream\nendobj\n";

    private static void rowHeads() {
        for (String head : new String[] {"03 00 obj", "3%x\n0%y\robj", "3\0" + "0\fobj", "% \n\t3 0 obj%"}) {
            Checks.loads("head " + head, rows(head, TOLD, DATA, TAIL), 0);
        }
        for (String head : new String[] {"+3 0 obj", "3 +0 obj", "-3 0 obj", "3 -0 obj", "3.0 0 obj", "3 0 objx", "3 0 Obj", "3 obj", "x",
            "200 0 obj", "0 0 obj", "99999999999 0 obj", "3 1 obj", "3 99999999999 obj", "3 0", "(3) 0 obj", " xref"}) {
            Checks.refuses("head " + head, rows(head, TOLD, DATA, TAIL), 3, BEGIN);
        }
        for (String tail : new String[] {"endstream endobj ", "\r\nendstream%x\nendobj/", "\rendstream\0endobj ", " \n\n %\nendstream endobj<"}) {
            Checks.loads("tail " + tail, rows("3 0 obj", TOLD, DATA, tail), 0);
        }
        for (String tail : new String[] {"\nendstreamx endobj ", "\nendstream endobjx ", "\nendstream ", "\nx endstream endobj ", ""}) {
            Checks.refuses("tail " + tail, rows("3 0 obj", TOLD, DATA, tail), 3, BEGIN);
        }
        String good = rows(TOLD, DATA);
        for (String length : new String[] {"15", "17", "-1", "16.0", "(16)", "4 0 R", "2147483647", "null"}) {
            Checks.refuses("Length " + length, good.replace("/Length 16", "/Length " + length), 3, BEGIN);
        }
        Checks.refuses("no Length", good.replace("/Length 16", "/Lengtk 16"), 3, BEGIN);
        Checks.refuses("CR behind stream", good.replace("stream\n" + row(0, 0, 255), "stream\r" + row(0, 0, 255)), 3, BEGIN);
        Checks.loads("CR LF behind stream", good.replace("stream\n" + row(0, 0, 255), "stream\r\n" + row(0, 0, 255)), 0);
        Checks.refuses("no stream", rows("3 0 obj", TOLD + " /A 1 >> endobj <<", DATA, TAIL), 3, BEGIN);
        int at = good.indexOf("<<", BEGIN);
        Checks.refuses("no dict", good.substring(0, at) + "[ ]" + good.substring(good.indexOf(">>", at) + 2), 3, BEGIN);
        Checks.refuses("no object", good.substring(0, at) + "] " + good.substring(at), 4, at);
        Checks.refuses("Type a reference", rows(TOLD.replace("/XRef", "4 0 R"), DATA), 3, BEGIN);
        Checks.refuses("Type a string", rows(TOLD.replace("/XRef", "(XRef)"), DATA), 3, BEGIN);
        Checks.refuses("no Type", rows(TOLD.replace("/Type", "/Tipe"), DATA), 3, BEGIN);
    }

    private static void rowWidths() {
        for (String w : new String[] {"[ 1 2 ]", "[ 1 2 1 0 ]", "[ -1 2 1 ]", "[ 1 -1 1 ]", "[ 1 2 -1 ]", "[ 5 2 1 ]", "[ 1 5 1 ]", "[ 1 2 5 ]",
            "[ 1.0 2 1 ]", "[ 1 2 4 0 R ]", "[ 1 2 /A ]", "[ ]", "<< /A 1 /B 2 /C 1 >>", "1", "null", "4 0 R"}) {
            Checks.refuses("W " + w, rows(TOLD.replace("[ 1 2 1 ]", w), DATA), 3, BEGIN);
        }
        for (int kind = 0; kind <= 4; kind++) {
            for (int second = 2; second <= 4; second++) {
                for (int third = 0; third <= 4; third++) {
                    StringBuilder data = new StringBuilder();
                    for (int n = 1; n <= 2; n++) {
                        data.append(number(1, kind)).append(number(PLAIN.placeOf(n), second)).append(number(0, third));
                    }
                    Checks.loads("W " + kind + " " + second + " " + third, rows("/Type /XRef /W [ " + kind + " " + second + " " + third
                            + " ] /Index [ 1 2 ] /Size 3 /Root 1 0 R", data.toString()), 0);
                }
            }
        }
        // The data are such as would do, if that were allowed.
        StringBuilder two = new StringBuilder();
        StringBuilder four = new StringBuilder();
        StringBuilder five = new StringBuilder();
        for (int n = 1; n <= 2; n++) {
            String place = number(PLAIN.placeOf(n), 2);
            two.append(number(1, 1)).append(place);
            four.append(number(1, 1)).append(place).append(number(0, 4));
            five.append(number(1, 5)).append(place).append(number(0, 1));
        }
        String tail = " /Index [ 1 2 ] /Size 5 /Root 1 0 R";
        Checks.refuses("a width below 0", rows("/Type /XRef /W [ 1 2 -1 ]" + tail, two.toString()), 3, BEGIN);
        Checks.refuses("a width of 5", rows("/Type /XRef /W [ 5 2 1 ]" + tail, five.toString()), 3, BEGIN);
        Checks.refuses("a width that is a reference", rows("/Type /XRef /W [ 1 2 4 0 R ]" + tail, four.toString()), 3, BEGIN);
        Checks.refuses("a width that is a truth", rows(TOLD.replace("[ 1 2 1 ]", "[ true 2 true ]"), DATA), 3, BEGIN);
        Checks.refuses("widths below 0", rows(TOLD.replace("[ 1 2 1 ]", "[ -1 2 1 ]"), DATA.substring(0, 12)), 3, BEGIN);
        Checks.refuses("entries of no bytes", rows("/Type /XRef /W [ 0 0 0 ] /Index [ 2 1 ] /Size 3 /Root 1 0 R", ""), 6, 0);
        Checks.refuses("entries of no bytes, a byte left", rows("/Type /XRef /W [ 0 0 0 ] /Index [ 2 1 ] /Size 3", "x"), 3, BEGIN);
    }

    private static String number(long value, int bytes) {
        StringBuilder all = new StringBuilder();
        for (int i = bytes - 1; i >= 0; i--) {
            all.append((char) (value >> 8 * i & 255));
        }
        return all.toString();
    }

    private static void rowIndexes() {
        for (String index : new String[] {"[ 0 ]", "[ 0 4 0 ]", "[ 0 -4 ]", "[ -1 5 ]", "[ 0 4.0 ]", "[ 0.0 4 ]", "[ 0 4 0 R ]", "[ 0 (4) ]",
            "[ 0 4 5 /A ]", "[ 0 4 -1 0 ]", "[ 0 4 0 -1 ]", "[ ]", "<< /A 0 /B 4 >>", "4", "null", "4 0 R", "(x)"}) {
            Checks.refuses("Index " + index, rows(TOLD + " /Index " + index, DATA), 3, BEGIN);
        }
        for (String index : new String[] {"[ 0 4 ]", "[ 0 1 1 1 2 1 3 1 ]", "[ 0 4 200 0 0 0 ]", "[ 200 0 0 4 ]"}) {
            Checks.loads("Index " + index, rows(TOLD + " /Index " + index, DATA), 0);
        }
        for (String index : new String[] {"[ 201 0 ]", "[ 0 201 ]", "[ 200 1 ]", "[ 1 200 ]", "[ 2147483647 0 ]", "[ 0 2147483647 ]",
            "[ 2147483647 2147483647 ]", "[ 0 4 201 0 ]", "[ 0 4 0 201 ]", "[ 0 3 200 1 ]"}) {
            Checks.refuses("Index " + index, rows(TOLD + " /Index " + index, DATA), 5, BEGIN);
        }
        // Of an object told twice in one section the first entry counts; object 0 is free always.
        House first = Checks.loads("told twice", rows(TOLD + " /Index [ 0 4 1 2 ]", DATA + row(0, 0, 0) + row(1, 5, 0)), 0);
        Checks.due("told twice: objects", first.objects(), 3);
        Checks.refuses("free first", rows(TOLD + " /Index [ 2 1 0 4 ]", row(0, 0, 0) + DATA), 10, 1);
        House zero = Checks.loads("object 0", rows(TOLD, DATA.replace(row(0, 0, 255), row(1, PLAIN.placeOf(1), 0))), 0);
        Checks.due("object 0: go", zero.go(0), -1);
        Checks.due("object 0: objects", zero.objects(), 3);
        // A pair's entries ahead of it are wrong, or the array is, as a whole.
        for (int more = 0; more < 4; more++) {
            Checks.refuses("so many bytes of an entry ahead of a limit: " + more, rows(TOLD + " /Index [ 0 5 201 0 ]", DATA + "abc".substring(0, more)),
                    3, BEGIN);
        }
        Checks.refuses("a kind ahead of a limit", rows(TOLD + " /Index [ 0 4 201 0 ]", DATA.replace(row(0, 0, 255), row(3, 0, 0))), 3, BEGIN);
        Checks.refuses("bytes lacking ahead of a limit", rows(TOLD + " /Index [ 0 5 201 0 ]", DATA), 3, BEGIN);
        Checks.refuses("a limit ahead of a kind", rows(TOLD + " /Index [ 0 3 201 0 3 1 ]", DATA.replace(row(1, BEGIN, 0), row(3, 0, 0))), 5, BEGIN);
        Checks.refuses("an array ahead of a limit", rows(TOLD + " /Index [ 201 0 0 (4) ]", DATA), 3, BEGIN);
        Checks.refuses("an odd array ahead of a limit", rows(TOLD + " /Index [ 201 0 0 ]", DATA), 3, BEGIN);
    }

    private static void rowKinds() {
        for (int kind = 3; kind < 256; kind++) {
            Checks.refuses("kind " + kind, rows(TOLD, DATA.replace(row(0, 0, 255), row(kind, 0, 0))), 3, BEGIN);
        }
        String three = "/Type /XRef /W [ 4 4 4 ] /Index [ 1 3 ] /Size 4 /Root 1 0 R";
        String two = number(1, 4) + number(PLAIN.placeOf(1), 4) + number(0, 4) + number(1, 4) + number(PLAIN.placeOf(2), 4) + number(0, 4);
        for (long kind : new long[] {3, 256, 257, 65537, 16777217, 2147483649L, 4294967295L}) {
            Checks.refuses("a long kind " + kind, rows(three, two + number(kind, 4) + number(0, 8)), 3, BEGIN);
        }
        Checks.loads("a free one of any numbers", rows(three, two + number(0, 4) + number(-1, 8)), 0);
        for (long place : new long[] {2147483647L, 2147483648L, 4294967295L}) {
            String file = rows(three, two + number(1, 4) + number(place, 4) + number(0, 4));
            Checks.refuses("at " + place, file, 6, file.length());
            Checks.refuses("in " + place, rows(three, two + number(2, 4) + number(place, 4) + number(0, 4)), 6, file.length());
            Checks.refuses("of generation " + place, rows(three, two + number(1, 4) + number(BEGIN, 4) + number(place, 4)), 6, BEGIN);
        }
    }

    /** Without Index Size tells how many; it must be a whole below 201 there already. */
    private static void rowSizes() {
        for (String size : new String[] {"0", "-1", "3", "5", "200", "4.0", "(4)", "4 0 R", "null"}) {
            Checks.refuses("Size " + size, rows(TOLD.replace("Size 4", "Size " + size), DATA), 3, BEGIN);
        }
        Checks.refuses("Size 0 of nothing", rows(TOLD.replace("Size 4", "Size 0"), ""), 3, BEGIN);
        for (String size : new String[] {"201", "2147483647"}) {
            Checks.refuses("Size " + size, rows(TOLD.replace("Size 4", "Size " + size), DATA), 5, BEGIN);
        }
        Checks.loads("Size above", rows(TOLD.replace("Size 4", "Size 200") + " /Index [ 0 4 ]", DATA), 0);
        Checks.refuses("Size above 200 with Index", rows(TOLD.replace("Size 4", "Size 201") + " /Index [ 0 4 ]", DATA), 5, BEGIN);
        Checks.refuses("a free one of Size", rows(TOLD.replace("Size 4", "Size 3") + " /Index [ 1 2 3 1 ]",
                DATA.substring(4, 12) + row(0, 0, 0)), 3, BEGIN);
    }

    /** What is looked at when: the object, its Type and Length, decoding, W, Index, entries, the trailer. */
    private static void rowOrder() {
        String bad = TOLD.replace("[ 1 2 1 ]", "[ 1 ]") + " /Index 5 /Encrypt 1";
        Checks.refuses("7 ahead of W and Index", rows(bad + " /Filter 5", DATA), 7, BEGIN);
        Checks.refuses("8 ahead of W and Index", rows(bad + " /Filter /FlateDecode", DATA), 8, BEGIN);
        Checks.refuses("W ahead of Encrypt", rows(bad, DATA), 3, BEGIN);
        Checks.refuses("Size without Index ahead of Encrypt", rows(TOLD.replace("/Size 4", "/Encrypt 1"), DATA), 3, BEGIN);
        for (String size : new String[] {"", "/Size null ", "/Size -1 ", "/Size 0.0 ", "/Size 1 "}) {
            Checks.refuses("no good Size ahead of Encrypt " + size, rows("/Type /XRef /W [ 1 2 1 ] /Encrypt 1 " + size, ""), 3, BEGIN);
        }
        Checks.refuses("Encrypt ahead of a Size of 0", rows("/Type /XRef /W [ 1 2 1 ] /Encrypt 1 /Size 0", ""), 9, BEGIN);
        Checks.refuses("the entries ahead of Encrypt", rows(TOLD + " /Encrypt 1", DATA.replace(row(0, 0, 255), row(3, 0, 0))), 3, BEGIN);
        Checks.refuses("Encrypt ahead of Size", rows(TOLD.replace("Size 4", "Size 2") + " /Index [ 0 4 ] /Encrypt 1", DATA), 9, BEGIN);
        Checks.refuses("XRefStm ahead of Prev", rows(TOLD + " /Prev -1 /XRefStm null", DATA), 9, BEGIN);
        Checks.refuses("Prev", rows(TOLD + " /Prev -1", DATA), 3, BEGIN);
        Checks.refuses("Prev of itself", rows(TOLD + " /Prev " + BEGIN, DATA), 3, BEGIN);
        Checks.refuses("Prev elsewhere", rows(TOLD + " /Prev 9", DATA), 3, 9);
        Checks.refuses("endobj ahead of 7", rows("3 0 obj", TOLD + " /Filter 5", DATA, "\nendstream endob "), 3, BEGIN);
        String unpredicted = Files.deflated("\2" + row(0, 0, 255) + "\2" + row(1, 0, 1));
        Checks.refuses("7 of a predictor", rows(TOLD + " /Filter /FlateDecode /DecodeParms << /Predictor 9 >>", unpredicted), 7, BEGIN);
        StringBuilder up = new StringBuilder();
        for (int i = 0; i < 16; i++) {
            up.append(i % 4 == 0 ? "\2" : "").append((char) (DATA.charAt(i) - (i < 4 ? 0 : DATA.charAt(i - 4)) & 255));
        }
        Checks.loads("rows of a predictor", rows(TOLD + " /Filter /FlateDecode /DecodeParms << /Predictor 12 /Columns 4 >>",
                Files.deflated(up.toString())), 0);
    }
}
