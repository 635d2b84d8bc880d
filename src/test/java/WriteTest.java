import java.util.zip.DataFormatException;
import java.util.zip.Inflater;

/** Promises 25 to 27 and 29: the document is written. */
public final class WriteTest {
    public static void main(String[] args) throws DataFormatException {
        wholeFile();
        wholeNumbers();
        values();
        codes();
        moreOfNothing();
        moreTable();
        moreRows();
        moreRefused();
        roundAndRound();
        Checks.end();
    }

    private static String whole(PaperHouse x) {
        Checks.due("whole", x.whole(), x.outs());
        return Files.out(x);
    }

    private static void wholeFile() {
        String file = "%PDF-1.7\n1 0 obj\n<< /Type /Catalog /Pages 2 0 R >>\nendobj\n2 0 obj\n"
                + "<< /Type /Pages /Kids [ 3 0 R ] /Count 1 >>\nendobj\n3 0 obj\n"
                + "<< /Type /Page /Parent 2 0 R /MediaBox [ 0 0 10 20 ] >>\nendobj\nxref\n0 4\n0000000000 65535 f \n"
                + "0000000009 00000 n \n0000000058 00000 n \n0000000117 00000 n \ntrailer\n<< /Size 4 /Root 1 0 R >>\n"
                + "startxref\n188\n%%EOF\n";
        PaperHouse x = Checks.loads("one page", Files.paged().table("/Root 1 0 R"), 1);
        Checks.due("whole", whole(x), file);
        x.take();
        Checks.due("load of it", x.load(), 1);
        Checks.due("whole of it", whole(x), file);
        Files.info(x, 0, "T");
        String titled = whole(x);
        Checks.due("Info is second", titled.contains("\n2 0 obj\n<< /Title (T) >>\nendobj\n3 0 obj\n<< /Type /Pages"), true);
        Checks.due("the trailer tells it", titled.contains("trailer\n<< /Size 5 /Root 1 0 R /Info 2 0 R >>\nstartxref\n"), true);
    }

    private static void wholeNumbers() {
        PaperHouse x = Checks.loads("a web", new Files()
                .object(7, "<< /A 9 0 R /Type /Catalog /Pages 4 0 R /B [ 5 0 R 20 0 R 5 1 R null 2 0 R ] >>")
                .object(9, "[ 7 0 R 3 0 R 9 0 R ]").object(3, "(three)").object(5, "9 0 R").object(2, "null")
                .object(4, "<< /Type /Pages /Kids [ ] /Count 0 >>").object(6, "(can't be come to)")
                .stream(8, "/Z 3 0 R", "abc").table("/Root 7 0 R /Info 4 0 R"), 0);
        String all = whole(x);
        int xref = all.indexOf("xref\n");
        Checks.due("by the order of meeting", all.substring(0, xref), "%PDF-1.7\n"
                + "1 0 obj\n<< /A 3 0 R /Type /Catalog /Pages 2 0 R /B [ 3 0 R null null null 4 0 R ] >>\nendobj\n"
                + "2 0 obj\n<< /Type /Pages /Kids [ ] /Count 0 >>\nendobj\n"
                + "3 0 obj\n[ 1 0 R 5 0 R 3 0 R ]\nendobj\n4 0 obj\nnull\nendobj\n5 0 obj\n(three)\nendobj\n");
        Checks.due("the trailer", all.contains("trailer\n<< /Size 6 /Root 1 0 R /Info 2 0 R >>\nstartxref\n" + xref + "\n"), true);
        PaperHouse y = Checks.loads("Info is Root", Files.empty().table("/Root 1 0 R /Info 1 0 R"), 0);
        Checks.due("each once", whole(y).contains("<< /Size 3 /Root 1 0 R /Info 1 0 R >>"), true);
        PaperHouse w = Checks.loads("a stream's dict", new Files().object(1, "<< /Type /Catalog /S 3 0 R /Pages 2 0 R >>")
                .object(2, Files.NO_PAGES)
                .object(3, "<< /Length 5 0 R /X 4 0 R /Y << /Length 7 >> /DecodeParms null >> stream\nabc\nendstream").object(4, "(x)").object(5, "3")
                .table("/Root 1 0 R"), 0);
        String streamed = whole(w);
        Checks.due("its dict", streamed.contains("2 0 obj\n<< /X 4 0 R /Y << /Length 7 >> /Length 11 /Filter /FlateDecode >>\nstream\nx\u009cKLJ\6\0"), true);
        Checks.due("its objects", streamed.contains("\nendstream\nendobj\n3 0 obj\n<< /Type /Pages /Kids [ ] /Count 0 >>\nendobj\n4 0 obj\n(x)\nendobj\nxref\n0 5\n"), true);
    }

    private static void value(String read, String written) {
        PaperHouse x = Checks.loads(read, new Files().object(1, "<< /Type /Catalog /V " + read + " /Pages 2 0 R >>")
                .object(2, Files.NO_PAGES).table("/Root 1 0 R"), 0);
        String all = whole(x);
        String head = "<< /Type /Catalog /V ";
        int at = all.indexOf(head) + head.length();
        Checks.due(read, all.substring(at, all.indexOf(" /Pages 2 0 R")), written);
    }

    private static void values() {
        value("null", "null");
        value("true", "true");
        value("false", "false");
        value("+007", "7");
        value("-2147483648", "-2147483648");
        value("0", "0");
        value(".5", "0.5");
        value("1.", "1.0");
        value("-1.25", "-1.25");
        value("-0.0", "0.0");
        value("3.14159", "3.14159");
        value("0.00002", "0.00002");
        value("-0.00001", "-0.00002");
        value("0.1", "0.10001");
        value("2.05", "2.05");
        value("-32768.0", "-32768.0");
        value("32767.99999", "32767.99998");
        value("0.99999", "0.99998");
        value("/A#20b#2f#23#7e#7F#80", "/A#20b#2F#23~#7F#80");
        value("/#28#29#3c#3E#5B#5d#7B#7D#25!\"$&'*+,-.", "/#28#29#3C#3E#5B#5D#7B#7D#25!\"$&'*+,-.");
        value("/", "/");
        value("()", "()");
        value("(a b~)", "(a b~)");
        value("(a\\(b)", "<612862>");
        value("(a\\\\b)", "<615C62>");
        value("(\\177\\n)", "<7F0A>");
        value("<aBcD>", "<ABCD>");
        value("<6162>", "(ab)");
        value("(\\177)", "<7F>");
        value("(\\037)", "<1F>");
        value("<< /Length 5 /Filter /A /DecodeParms null >>", "<< /Length 5 /Filter /A /DecodeParms null >>");
        value("[[]<<>>[1(x)]]", "[ [ ] << >> [ 1 (x) ] ]");
        value("<</A<</B/C>>>>", "<< /A << /B /C >> >>");
        value("[2 0 R 7 0 R 2 5 R]", "[ 2 0 R null null ]");
    }

    private static String coded(String text) {
        PaperHouse x = Checks.loads("code", Files.paged().table("/Root 1 0 R"), 1);
        Files.contents(x, 0, text);
        String all = whole(x);
        int at = all.indexOf("stream\n") + 7;
        String head = all.substring(all.lastIndexOf("/Length ", at) + 8, all.lastIndexOf(" /Filter", at));
        int many = Integer.parseInt(head);
        Checks.due("endstream stands behind", all.substring(at + many, at + many + 11), "\nendstream\n");
        return all.substring(at, at + many);
    }

    private static void code(String what, String text, Bits bits) {
        Checks.due(what, Files.hex(coded(text)), Files.hex(bits.zlib(text)));
    }

    private static Bits begun() {
        return new Bits().add(1, 1).add(1, 2);
    }

    private static void codes() throws DataFormatException {
        code("empty", "", begun().code(0, 7));
        code("literals", "a\u0090\u00ff", begun().code(48 + 'a', 8).code(400, 9).code(511, 9).code(0, 7));
        code("a row at distance 1", "aaaa", begun().code(48 + 'a', 8).code(1, 7).code(0, 5).code(0, 7));
        code("no row of two", "abxab", begun().code(48 + 'a', 8).code(48 + 'b', 8).code(48 + 'x', 8)
                .code(48 + 'a', 8).code(48 + 'b', 8).code(0, 7));
        code("the nearest of two", "abc1abc2abc", begun().code(48 + 'a', 8).code(48 + 'b', 8).code(48 + 'c', 8).code(48 + '1', 8)
                .code(1, 7).code(3, 5).code(48 + '2', 8).code(1, 7).code(3, 5).code(0, 7));
        code("the longest of two", "abcd1abc2abcd", begun().code(48 + 'a', 8).code(48 + 'b', 8).code(48 + 'c', 8).code(48 + 'd', 8)
                .code(48 + '1', 8).code(1, 7).code(4, 5).add(0, 1).code(48 + '2', 8).code(2, 7).code(6, 5).add(0, 2).code(0, 7));
        code("258 and more", Files.repeat("a", 1 + 258 + 257), begun().code(48 + 'a', 8).code(197, 8).code(0, 5)
                .code(196, 8).add(30, 5).code(0, 5).code(0, 7));
        for (int far = 2000; far <= 2001; far++) {
            String filler = Files.noise(far - 8, 3);
            String out = coded("abcdefgh" + filler + "abcdefgh");
            String two = coded("abcdefgh" + filler + "hgfedcba");
            Checks.due("a row at distance " + far, out.length() < two.length(), far == 2000);
        }
        StringBuilder lengths = new StringBuilder();
        for (int length = 3; length <= 120; length += 1 + length / 16) {
            lengths.append(Files.noise(length, length)).append((char) length).append(Files.noise(length, length)).append('.');
        }
        String[] texts = {Files.noise(8000, 4), lengths.substring(0, Math.min(8000, lengths.length())), distances(), Files.repeat("abcde", 1600), Files.repeat("\0", 8000)};
        for (String text : texts) {
            Inflater inflater = new Inflater();
            inflater.setInput(Files.bytes(coded(text)));
            byte[] room = new byte[9000];
            int many = inflater.inflate(room);
            Checks.due("decoded", Files.text(room).substring(0, many), text);
            Checks.due("finished", inflater.finished(), true);
        }
    }

    /** Rows of four at distances of all kinds up to 2000. */
    private static String distances() {
        StringBuilder text = new StringBuilder(Files.noise(2100, 8));
        for (int distance = 4; distance <= 2000; distance = distance * 5 / 4 + 1) {
            text.append((char) (distance & 255)).append(text, text.length() - distance, text.length() - distance + 4);
        }
        return text.toString();
    }

    private static void moreOfNothing() {
        String file = Files.paged().table("/Root 1 0 R");
        int begin = file.indexOf("xref\n");
        PaperHouse x = Checks.loads("nothing", file, 1);
        Checks.due("more", x.more(), x.outs());
        Checks.due("more of nothing", Files.out(x), file + "xref\n0 0\ntrailer\n<< /Size 4 /Root 1 0 R /Prev " + begin
                + " >>\nstartxref\n" + file.length() + "\n%%EOF\n");
        String bare = file.substring(0, file.length() - 1);
        PaperHouse y = Checks.loads("no line end", bare, 1);
        y.more();
        Checks.due("a line end comes ahead", Files.out(y).startsWith(file + "xref\n0 0\n"), true);
        y.take();
        Checks.due("it is a document", y.load(), 1);
        Checks.due("of two sections", y.count(3), 2);
    }

    private static void moreTable() {
        Files files = Files.paged().object(6, "[ 7 0 R 8 0 R ]");
        files.raw("5 3 obj << /X (x) >> endobj 4 0 obj 5 3 R endobj ");
        int five = files.length() - "5 3 obj << /X (x) >> endobj 4 0 obj 5 3 R endobj ".length();
        int four = five + "5 3 obj << /X (x) >> endobj ".length();
        int begin = files.length();
        files.raw(String.format("xref\n1 6\n%010d 00000 n \n%010d 00000 n \n%010d 00000 n \n%010d 00000 n \n%010d 00003 n \n%010d 00000 n \n"
                + "trailer\n<< /Size 7 /Root 1 0 R /Info 4 0 R >>\n", files.placeOf(1), files.placeOf(2), files.placeOf(3), four, five,
                files.placeOf(6)));
        String file = files.end(begin);
        PaperHouse x = Checks.loads("a table", file, 1);
        Checks.due("9 is new", x.insert(0, 1, 1), 9);
        Checks.due("5 is changed", Files.info(x, 0, "T"), 5);
        x.more();
        String more = Files.out(x);
        String two = "2 0 obj\n<< /Type /Pages /Kids [ 9 0 R 3 0 R ] /Count 2 >>\nendobj\n";
        String fifth = "5 3 obj\n<< /X (x) /Title (T) >>\nendobj\n";
        String nine = "9 0 obj\n<< /Type /Page /Parent 2 0 R /MediaBox [ 0 0 1 1 ] >>\nendobj\n";
        int at = file.length();
        int xref = at + two.length() + fifth.length() + nine.length();
        Checks.due("more", more, file + two + fifth + nine + String.format("xref\n2 1\n%010d 00000 n \n5 1\n%010d 00003 n \n7 3\n"
                + "0000000000 65535 f \n0000000000 65535 f \n%010d 00000 n \ntrailer\n<< /Size 10 /Root 1 0 R /Info 5 3 R /Prev %d >>\n"
                + "startxref\n%d\n%%%%EOF\n", at, at + two.length(), at + two.length() + fifth.length(), begin, xref));
        x.take();
        Checks.due("it is a document", x.load(), 2);
        Checks.due("its pages", x.page(0, 0), 9);
        Checks.due("Info", x.count(2), 5);
        Checks.due("sections", x.count(3), 2);
    }

    private static String rowFile(String reference) {
        Files files = Files.paged();
        int begin = files.length();
        StringBuilder rows = new StringBuilder();
        for (int n = 1; n <= 3; n++) {
            rows.append((char) (files.placeOf(n) >> 8)).append((char) (files.placeOf(n) & 255));
        }
        files.raw("4 0 obj\n<< /Type /XRef /Size 5 /W [ 0 2 0 ] /Index [ 1 3 ] /Root 1 0 R " + reference + "/Length 6 >>\nstream\n" + rows
                + "\nendstream\nendobj\n");
        return files.end(begin);
    }

    private static void moreRows() {
        String file = rowFile("/X [ 6 0 R 8 0 R ] ");
        PaperHouse x = Checks.loads("rows", file, 1);
        Checks.due("5", Files.info(x, 0, "T"), 5);
        Checks.due("7", x.insert(1, 1, 1), 7);
        x.more();
        String more = Files.out(x);
        String two = "2 0 obj\n<< /Type /Pages /Kids [ 3 0 R 7 0 R ] /Count 2 >>\nendobj\n";
        String five = "5 0 obj\n<< /Title (T) >>\nendobj\n";
        String seven = "7 0 obj\n<< /Type /Page /Parent 2 0 R /MediaBox [ 0 0 1 1 ] >>\nendobj\n";
        int at = file.length();
        int own = at + two.length() + five.length() + seven.length();
        String head = file + two + five + seven + "9 0 obj\n<< /Type /XRef /Size 10 /W [ 1 4 2 ] /Index [ 2 1 5 5 ] /Root 1 0 R"
                + " /Info 5 0 R /Prev " + file.lastIndexOf("4 0 obj") + " /Length ";
        Checks.due("what is ahead of the rows", more.substring(0, head.length()), head);
        Checks.due("what is behind", more.endsWith("\nendstream\nendobj\nstartxref\n" + own + "\n%%EOF\n"), true);
        x.take();
        Checks.due("it is a document", x.load(), 2);
        Checks.due("of rows", x.count(4), 1);
        Checks.due("Size", x.count(0), 10);
        String free = "\0\0\0\0\0\u00ff\u00ff";
        Checks.due("the rows", Files.data(x, 9), place(at) + place(at + two.length()) + free
                + place(at + two.length() + five.length()) + free + place(own));
        PaperHouse y = Checks.loads("rows of nothing", rowFile(""), 1);
        y.more();
        Checks.due("its own alone", Files.out(y).contains("\n5 0 obj\n<< /Type /XRef /Size 6 /W [ 1 4 2 ] /Index [ 5 1 ] /Root 1 0 R /Prev "), true);
        Checks.due("Size is as it was", y.count(0), 5);
        Checks.due("nothing is changed by it", y.count(6), 0);
    }

    private static String place(int at) {
        return "\1\0\0" + (char) (at >> 8) + (char) (at & 255) + "\0\0";
    }

    private static void moreRefused() {
        String file = rowFile("").replace("/Size 5 ", "/Size 200 ");
        PaperHouse x = Checks.loads("Size 200", file, 1);
        x.whole();
        Checks.due("more", x.more(), -1);
        Checks.due("the out is empty", x.outs(), 0);
        PaperHouse y = Checks.loads("Size 200 of a table", Files.paged().table("/Root 1 0 R", 200), 1);
        Checks.due("a table needs none", y.more() > 0, true);
    }

    private static void roundAndRound() {
        PaperHouse x = Checks.loads("round", rowFile("/Info 1 0 R "), 1);
        for (int i = 0; i < 9; i++) {
            x.turn(0, 90 * (i % 4));
            Files.contents(x, 0, "BT ET %" + i);
            x.more();
            x.take();
            Checks.due("load " + i, x.load(), 1);
            Checks.due("sections " + i, x.count(3), i + 2);
            Checks.due("Rotate " + i, x.page(0, 5), 90 * (i % 4));
            Checks.due("bytes " + i, x.page(0, 6), 8);
        }
        x.more();
        x.take();
        Checks.due("an eleventh section", x.load(), -105);
    }
}
