import java.util.zip.DataFormatException;
import java.util.zip.Inflater;

/** Promises 25 to 27 and 29: the document is written. */
public final class WriteTest {
    public static void main(String[] args) throws DataFormatException {
        wholeFile();
        wholeNumbers();
        values();
        codes();
        moreOfNothing();
        moreTable();
        moreRows();
        moreRefused();
        roundAndRound();
        bytesOfNames();
        bytesOfStrings();
        realsInDigits();
        wholesInDigits();
        emptyAndDeep();
        streamsAreCoded();
        codesByThePlainWay();
        rowsOfAllLengths();
        whatIsNull();
        onceEach();
        wholeOfAll();
        wholeOfGenerations();
        theOutIsFull();
        theTapeIsFull();
        rowsOfChanges();
        endsOfFiles();
        rootsAsTheyAre();
        ownNumbers();
        generationsInRows();
        writtenAgain();
        Checks.end();
    }

    private static String whole(House x) {
        Checks.due("whole", x.whole(), x.outs());
        return Files.out(x);
    }

    private static void wholeFile() {
        String file = "%PDF-1.7\n1 0 obj\n<< /Type /Catalog /Pages 2 0 R >>\nendobj\n2 0 obj\n"
                + "<< /Type /Pages /Kids [ 3 0 R ] /Count 1 >>\nendobj\n3 0 obj\n"
                + "<< /Type /Page /Parent 2 0 R /MediaBox [ 0 0 10 20 ] >>\nendobj\nxref\n0 4\n0000000000 65535 f \n"
                + "0000000009 00000 n \n0000000058 00000 n \n0000000117 00000 n \ntrailer\n<< /Size 4 /Root 1 0 R >>\n"
                + "startxref\n188\n%%EOF\n";
        House x = Checks.loads("one page", Files.paged().table("/Root 1 0 R"), 1);
        Checks.due("whole", whole(x), file);
        x.take();
        Checks.due("load of it", x.load(), 1);
        Checks.due("whole of it", whole(x), file);
        Files.info(x, 0, "T");
        String titled = whole(x);
        Checks.due("Info is second", titled.contains("\n2 0 obj\n<< /Title (T) >>\nendobj\n3 0 obj\n<< /Type /Pages"), true);
        Checks.due("the trailer tells it", titled.contains("trailer\n<< /Size 5 /Root 1 0 R /Info 2 0 R >>\nstartxref\n"), true);
    }

    private static void wholeNumbers() {
        House x = Checks.loads("a web", new Files()
                .object(7, "<< /A 9 0 R /Type /Catalog /Pages 4 0 R /B [ 5 0 R 20 0 R 5 1 R null 2 0 R ] >>")
                .object(9, "[ 7 0 R 3 0 R 9 0 R ]").object(3, "(three)").object(5, "9 0 R").object(2, "null")
                .object(4, "<< /Type /Pages /Kids [ ] /Count 0 >>").object(6, "(can't be come to)")
                .stream(8, "/Z 3 0 R", "abc").table("/Root 7 0 R /Info 4 0 R"), 0);
        String all = whole(x);
        int xref = all.indexOf("xref\n");
        Checks.due("by the order of meeting", all.substring(0, xref), "%PDF-1.7\n"
                + "1 0 obj\n<< /A 3 0 R /Type /Catalog /Pages 2 0 R /B [ 3 0 R null null null 4 0 R ] >>\nendobj\n"
                + "2 0 obj\n<< /Type /Pages /Kids [ ] /Count 0 >>\nendobj\n"
                + "3 0 obj\n[ 1 0 R 5 0 R 3 0 R ]\nendobj\n4 0 obj\nnull\nendobj\n5 0 obj\n(three)\nendobj\n");
        Checks.due("the trailer", all.contains("trailer\n<< /Size 6 /Root 1 0 R /Info 2 0 R >>\nstartxref\n" + xref + "\n"), true);
        House y = Checks.loads("Info is Root", Files.empty().table("/Root 1 0 R /Info 1 0 R"), 0);
        Checks.due("each once", whole(y).contains("<< /Size 3 /Root 1 0 R /Info 1 0 R >>"), true);
        House w = Checks.loads("a stream's dict", new Files().object(1, "<< /Type /Catalog /S 3 0 R /Pages 2 0 R >>")
                .object(2, Files.NO_PAGES)
                .object(3, "<< /Length 5 0 R /X 4 0 R /Y << /Length 7 >> /DecodeParms null >> stream\nabc\nendstream").object(4, "(x)").object(5, "3")
                .table("/Root 1 0 R"), 0);
        String streamed = whole(w);
        Checks.due("its dict", streamed.contains("2 0 obj\n<< /X 4 0 R /Y << /Length 7 >> /Length 11 /Filter /FlateDecode >>\nstream\nx\u009cKLJ\6\0"), true);
        Checks.due("its objects", streamed.contains("\nendstream\nendobj\n3 0 obj\n<< /Type /Pages /Kids [ ] /Count 0 >>\nendobj\n4 0 obj\n(x)\nendobj\nxref\n0 5\n"), true);
    }

    private static void value(String read, String written) {
        House x = Checks.loads(read, new Files().object(1, "<< /Type /Catalog /V " + read + " /Pages 2 0 R >>")
                .object(2, Files.NO_PAGES).table("/Root 1 0 R"), 0);
        String all = whole(x);
        String head = "<< /Type /Catalog /V ";
        int at = all.indexOf(head) + head.length();
        Checks.due(read, all.substring(at, all.indexOf(" /Pages 2 0 R")), written);
    }

    private static void values() {
        value("null", "null");
        value("true", "true");
        value("false", "false");
        value("+007", "7");
        value("-2147483648", "-2147483648");
        value("0", "0");
        value(".5", "0.5");
        value("1.", "1.0");
        value("-1.25", "-1.25");
        value("-0.0", "0.0");
        value("3.14159", "3.14159");
        value("0.00002", "0.00002");
        value("-0.00001", "-0.00002");
        value("0.1", "0.10001");
        value("2.05", "2.05");
        value("-32768.0", "-32768.0");
        value("32767.99999", "32767.99998");
        value("0.99999", "0.99998");
        value("/A#20b#2f#23#7e#7F#80", "/A#20b#2F#23~#7F#80");
        value("/#28#29#3c#3E#5B#5d#7B#7D#25!\"$&'*+,-.", "/#28#29#3C#3E#5B#5D#7B#7D#25!\"$&'*+,-.");
        value("/", "/");
        value("()", "()");
        value("(a b~)", "(a b~)");
        value("(a\\(b)", "<612862>");
        value("(a\\\\b)", "<615C62>");
        value("(\\177\\n)", "<7F0A>");
        value("<aBcD>", "<ABCD>");
        value("<6162>", "(ab)");
        value("(\\177)", "<7F>");
        value("(\\037)", "<1F>");
        value("<< /Length 5 /Filter /A /DecodeParms null >>", "<< /Length 5 /Filter /A /DecodeParms null >>");
        value("[[]<<>>[1(x)]]", "[ [ ] << >> [ 1 (x) ] ]");
        value("<</A<</B/C>>>>", "<< /A << /B /C >> >>");
        value("[2 0 R 7 0 R 2 5 R]", "[ 2 0 R null null ]");
    }

    private static String coded(String text) {
        House x = Checks.loads("code", Files.paged().table("/Root 1 0 R"), 1);
        Files.contents(x, 0, text);
        String all = whole(x);
        int at = all.indexOf("stream\n") + 7;
        String head = all.substring(all.lastIndexOf("/Length ", at) + 8, all.lastIndexOf(" /Filter", at));
        int many = Integer.parseInt(head);
        Checks.due("endstream stands behind", all.substring(at + many, at + many + 11), "\nendstream\n");
        return all.substring(at, at + many);
    }

    private static void code(String what, String text, Bits bits) {
        Checks.due(what, Files.hex(coded(text)), Files.hex(bits.zlib(text)));
    }

    private static Bits begun() {
        return new Bits().add(1, 1).add(1, 2);
    }

    private static void codes() throws DataFormatException {
        code("empty", "", begun().code(0, 7));
        code("literals", "a\u0090\u00ff", begun().code(48 + 'a', 8).code(400, 9).code(511, 9).code(0, 7));
        code("a row at distance 1", "aaaa", begun().code(48 + 'a', 8).code(1, 7).code(0, 5).code(0, 7));
        code("no row of two", "abxab", begun().code(48 + 'a', 8).code(48 + 'b', 8).code(48 + 'x', 8)
                .code(48 + 'a', 8).code(48 + 'b', 8).code(0, 7));
        code("the nearest of two", "abc1abc2abc", begun().code(48 + 'a', 8).code(48 + 'b', 8).code(48 + 'c', 8).code(48 + '1', 8)
                .code(1, 7).code(3, 5).code(48 + '2', 8).code(1, 7).code(3, 5).code(0, 7));
        code("the longest of two", "abcd1abc2abcd", begun().code(48 + 'a', 8).code(48 + 'b', 8).code(48 + 'c', 8).code(48 + 'd', 8)
                .code(48 + '1', 8).code(1, 7).code(4, 5).add(0, 1).code(48 + '2', 8).code(2, 7).code(6, 5).add(0, 2).code(0, 7));
        code("258 and more", Files.repeat("a", 1 + 258 + 257), begun().code(48 + 'a', 8).code(197, 8).code(0, 5)
                .code(196, 8).add(30, 5).code(0, 5).code(0, 7));
        for (int far = 2000; far <= 2001; far++) {
            String filler = Files.noise(far - 8, 3);
            String out = coded("abcdefgh" + filler + "abcdefgh");
            String two = coded("abcdefgh" + filler + "hgfedcba");
            Checks.due("a row at distance " + far, out.length() < two.length(), far == 2000);
        }
        StringBuilder lengths = new StringBuilder();
        for (int length = 3; length <= 120; length += 1 + length / 16) {
            lengths.append(Files.noise(length, length)).append((char) length).append(Files.noise(length, length)).append('.');
        }
        String[] texts = {Files.noise(8000, 4), lengths.substring(0, Math.min(8000, lengths.length())), distances(), Files.repeat("abcde", 1600), Files.repeat("\0", 8000)};
        for (String text : texts) {
            Inflater inflater = new Inflater();
            inflater.setInput(Files.bytes(coded(text)));
            byte[] room = new byte[9000];
            int many = inflater.inflate(room);
            Checks.due("decoded", Files.text(room).substring(0, many), text);
            Checks.due("finished", inflater.finished(), true);
        }
    }

    /** Rows of four at distances of all kinds up to 2000. */
    private static String distances() {
        StringBuilder text = new StringBuilder(Files.noise(2100, 8));
        for (int distance = 4; distance <= 2000; distance = distance * 5 / 4 + 1) {
            text.append((char) (distance & 255)).append(text, text.length() - distance, text.length() - distance + 4);
        }
        return text.toString();
    }

    private static void moreOfNothing() {
        String file = Files.paged().table("/Root 1 0 R");
        int begin = file.indexOf("xref\n");
        House x = Checks.loads("nothing", file, 1);
        Checks.due("more", x.more(), x.outs());
        Checks.due("more of nothing", Files.out(x), file + "xref\n0 0\ntrailer\n<< /Size 4 /Root 1 0 R /Prev " + begin
                + " >>\nstartxref\n" + file.length() + "\n%%EOF\n");
        String bare = file.substring(0, file.length() - 1);
        House y = Checks.loads("no line end", bare, 1);
        y.more();
        Checks.due("a line end comes ahead", Files.out(y).startsWith(file + "xref\n0 0\n"), true);
        y.take();
        Checks.due("it is a document", y.load(), 1);
        Checks.due("of two sections", y.count(3), 2);
    }

    private static void moreTable() {
        Files files = Files.paged().object(6, "[ 7 0 R 8 0 R ]");
        files.raw("5 3 obj << /X (x) >> endobj 4 0 obj 5 3 R endobj ");
        int five = files.length() - "5 3 obj << /X (x) >> endobj 4 0 obj 5 3 R endobj ".length();
        int four = five + "5 3 obj << /X (x) >> endobj ".length();
        int begin = files.length();
        files.raw(String.format("xref\n1 6\n%010d 00000 n \n%010d 00000 n \n%010d 00000 n \n%010d 00000 n \n%010d 00003 n \n%010d 00000 n \n"
                + "trailer\n<< /Size 7 /Root 1 0 R /Info 4 0 R >>\n", files.placeOf(1), files.placeOf(2), files.placeOf(3), four, five,
                files.placeOf(6)));
        String file = files.end(begin);
        House x = Checks.loads("a table", file, 1);
        Checks.due("9 is new", x.insert(0, 1, 1), 9);
        Checks.due("5 is changed", Files.info(x, 0, "T"), 5);
        x.more();
        String more = Files.out(x);
        String two = "2 0 obj\n<< /Type /Pages /Kids [ 9 0 R 3 0 R ] /Count 2 >>\nendobj\n";
        String fifth = "5 3 obj\n<< /X (x) /Title (T) >>\nendobj\n";
        String nine = "9 0 obj\n<< /Type /Page /Parent 2 0 R /MediaBox [ 0 0 1 1 ] >>\nendobj\n";
        int at = file.length();
        int xref = at + two.length() + fifth.length() + nine.length();
        Checks.due("more", more, file + two + fifth + nine + String.format("xref\n2 1\n%010d 00000 n \n5 1\n%010d 00003 n \n7 3\n"
                + "0000000000 65535 f \n0000000000 65535 f \n%010d 00000 n \ntrailer\n<< /Size 10 /Root 1 0 R /Info 5 3 R /Prev %d >>\n"
                + "startxref\n%d\n%%%%EOF\n", at, at + two.length(), at + two.length() + fifth.length(), begin, xref));
        x.take();
        Checks.due("it is a document", x.load(), 2);
        Checks.due("its pages", x.page(0, 0), 9);
        Checks.due("Info", x.count(2), 5);
        Checks.due("sections", x.count(3), 2);
    }

    private static String rowFile(String reference) {
        Files files = Files.paged();
        int begin = files.length();
        StringBuilder rows = new StringBuilder();
        for (int n = 1; n <= 3; n++) {
            rows.append((char) (files.placeOf(n) >> 8)).append((char) (files.placeOf(n) & 255));
        }
        files.raw("4 0 obj\n<< /Type /XRef /Size 5 /W [ 0 2 0 ] /Index [ 1 3 ] /Root 1 0 R " + reference + "/Length 6 >>\nstream\n" + rows
                + "\nendstream\nendobj\n");
        return files.end(begin);
    }

    private static void moreRows() {
        String file = rowFile("/X [ 6 0 R 8 0 R ] ");
        House x = Checks.loads("rows", file, 1);
        Checks.due("5", Files.info(x, 0, "T"), 5);
        Checks.due("7", x.insert(1, 1, 1), 7);
        x.more();
        String more = Files.out(x);
        String two = "2 0 obj\n<< /Type /Pages /Kids [ 3 0 R 7 0 R ] /Count 2 >>\nendobj\n";
        String five = "5 0 obj\n<< /Title (T) >>\nendobj\n";
        String seven = "7 0 obj\n<< /Type /Page /Parent 2 0 R /MediaBox [ 0 0 1 1 ] >>\nendobj\n";
        int at = file.length();
        int own = at + two.length() + five.length() + seven.length();
        String head = file + two + five + seven + "9 0 obj\n<< /Type /XRef /Size 10 /W [ 1 4 2 ] /Index [ 2 1 5 5 ] /Root 1 0 R"
                + " /Info 5 0 R /Prev " + file.lastIndexOf("4 0 obj") + " /Length ";
        Checks.due("what is ahead of the rows", more.substring(0, head.length()), head);
        Checks.due("what is behind", more.endsWith("\nendstream\nendobj\nstartxref\n" + own + "\n%%EOF\n"), true);
        x.take();
        Checks.due("it is a document", x.load(), 2);
        Checks.due("of rows", x.count(4), 1);
        Checks.due("Size", x.count(0), 10);
        String free = "\0\0\0\0\0\u00ff\u00ff";
        Checks.due("the rows", Files.data(x, 9), place(at) + place(at + two.length()) + free
                + place(at + two.length() + five.length()) + free + place(own));
        House y = Checks.loads("rows of nothing", rowFile(""), 1);
        y.more();
        Checks.due("its own alone", Files.out(y).contains("\n5 0 obj\n<< /Type /XRef /Size 6 /W [ 1 4 2 ] /Index [ 5 1 ] /Root 1 0 R /Prev "), true);
        Checks.due("Size is as it was", y.count(0), 5);
        Checks.due("nothing is changed by it", y.count(6), 0);
    }

    private static String place(int at) {
        return "\1\0\0" + (char) (at >> 8) + (char) (at & 255) + "\0\0";
    }

    private static void moreRefused() {
        String file = rowFile("").replace("/Size 5 ", "/Size 200 ");
        House x = Checks.loads("Size 200", file, 1);
        x.whole();
        Checks.due("more", x.more(), -1);
        Checks.due("the out is empty", x.outs(), 0);
        House y = Checks.loads("Size 200 of a table", Files.paged().table("/Root 1 0 R", 200), 1);
        Checks.due("a table needs none", y.more() > 0, true);
    }

    private static void roundAndRound() {
        House x = Checks.loads("round", rowFile("/Info 1 0 R "), 1);
        for (int i = 0; i < 9; i++) {
            x.turn(0, 90 * (i % 4));
            Files.contents(x, 0, "BT ET %" + i);
            x.more();
            x.take();
            Checks.due("load " + i, x.load(), 1);
            Checks.due("sections " + i, x.count(3), i + 2);
            Checks.due("Rotate " + i, x.page(0, 5), 90 * (i % 4));
            Checks.due("bytes " + i, x.page(0, 6), 8);
        }
        x.more();
        x.take();
        Checks.due("an eleventh section", x.load(), -105);
    }

    private static final java.util.List<String[]> KEPT = new java.util.ArrayList<>();

    /** A value that is read and written together with others, in one array. */
    private static void one(String read, String written) {
        KEPT.add(new String[] {read, written});
        if (KEPT.size() == 150) {
            together();
        }
    }

    private static void together() {
        StringBuilder read = new StringBuilder("[ ");
        StringBuilder written = new StringBuilder("[ ");
        for (String[] one : KEPT) {
            read.append(one[0]).append(' ');
            written.append(one[1]).append(' ');
        }
        value(read + "]", written + "]");
        KEPT.clear();
    }

    private static void bytesOfNames() {
        for (int c = 1; c < 256; c++) {
            boolean plain = c >= 33 && c <= 126 && "()<>[]{}/%#".indexOf(c) < 0;
            String written = plain ? "" + (char) c : String.format("#%02X", c);
            one(String.format("/x#%02xy", c), "/x" + written + "y");
            one(String.format("<< /x#%02xy 1 >>", c), "<< /x" + written + "y 1 >>");
            if (plain) {
                one("/" + (char) c, "/" + (char) c);
            }
        }
        value("/" + Files.repeat("#80", 60), "/" + Files.repeat("#80", 60));
        one("<< / 1 >>", "<< / 1 >>");
        together();
    }

    private static void bytesOfStrings() {
        for (int c = 0; c < 256; c++) {
            boolean plain = c >= 32 && c <= 126 && c != '(' && c != ')' && c != '\\';
            String hex = String.format("%02X", c);
            one("<" + hex + ">", plain ? "(" + (char) c + ")" : "<" + hex + ">");
            one("<61" + hex + "62>", plain ? "(a" + (char) c + "b)" : "<61" + hex + "62>");
        }
        one("(a(b)c)", "<6128622963>");
        value("(" + Files.repeat("x", 2000) + ")", "(" + Files.repeat("x", 2000) + ")");
        value("<" + Files.repeat("ff", 2000) + ">", "<" + Files.repeat("FF", 2000) + ">");
        one("<7>", "(p)");
        together();
    }

    /** A real of so many units, told by a number that is nearest to it. */
    private static void real(int units) {
        java.math.BigDecimal exact = new java.math.BigDecimal(units).divide(new java.math.BigDecimal(65536));
        java.math.BigDecimal five = exact.abs().setScale(5, java.math.RoundingMode.HALF_UP);
        String digits = five.toPlainString();
        while (digits.endsWith("0") && !digits.endsWith(".0")) {
            digits = digits.substring(0, digits.length() - 1);
        }
        one(exact.setScale(9, java.math.RoundingMode.HALF_UP).toPlainString(), (units < 0 ? "-" : "") + digits);
    }

    private static void realsInDigits() {
        for (int units = -70; units <= 70; units++) {
            real(units);
        }
        for (int power = 1; power < 31; power++) {
            for (int more = -1; more <= 1; more++) {
                real((1 << power) + more);
                real(-(1 << power) + more);
            }
        }
        for (int units : new int[] {65535, 65536, 65537, 131071, 655359, 655360, 2147483647, -2147483647, -2147483648, 6553600, 32768, 16384, 8192, 4096, 2048,
            1024, 98304, 6554, 13107, 19661, 45875, 58982}) {
            real(units);
            real(-Math.max(units, -2147483647));
        }
        for (int i = 0; i < 2000; i++) {
            real(i * 1048583 - 1048576000);
        }
        one("-0.000001", "0.0");
        one("-.0", "0.0");
        one("+0.", "0.0");
        // 3 / 64 has six digits: of two nearest of five the greater one, without the sign.
        one(".046875", "0.04688");
        one("-.046875", "-0.04688");
        one("9.046875", "9.04688");
        one(".999985", "0.99998");
        together();
    }

    private static void wholesInDigits() {
        long power = 1;
        for (int i = 0; i <= 9; i++, power *= 10) {
            for (long more = -1; more <= 1; more++) {
                one("" + (power + more), "" + (power + more));
                one("" + (-power + more), "" + (-power + more));
                one("+000" + (power + more), "" + (power + more));
            }
        }
        one("2147483647", "2147483647");
        one("-2147483647", "-2147483647");
        one("-00", "0");
        together();
    }

    private static void emptyAndDeep() {
        value("[]", "[ ]");
        value("<<>>", "<< >>");
        value("[[][]]", "[ [ ] [ ] ]");
        value("<</A<<>>/B[]/C()/D/>>", "<< /A << >> /B [ ] /C () /D / >>");
        String deep = Files.repeat("[", 19) + "1" + Files.repeat("]", 19);
        value(deep, Files.repeat("[ ", 19) + "1" + Files.repeat(" ]", 19));
        String dicts = Files.repeat("<</A", 19) + " 1" + Files.repeat(">>", 19);
        value(dicts, Files.repeat("<< /A ", 19) + "1" + Files.repeat(" >>", 19));
        value("[null true false 1 -1.5/A(x)<80>[]<<>>1 0 R]", "[ null true false 1 -1.5 /A (x) <80> [ ] << >> 1 0 R ]");
    }

    /** A stream's dict as it is written, by what was read. */
    private static void streamDict(String read, String data, String written) {
        House x = Checks.loads(read, new Files().object(1, "<< /Type /Catalog /S 3 0 R /Pages 2 0 R >>").object(2, Files.NO_PAGES)
                .object(3, "<< " + read + " /Length " + data.length() + " >> stream\n" + data + "\nendstream").table("/Root 1 0 R"), 0);
        String text = Files.data(x, 3);
        String code = Bits.plainCode(text);
        String want = "\n2 0 obj\n<< " + written + "/Length " + code.length() + " /Filter /FlateDecode >>\nstream\n" + code + "\nendstream\nendobj\n";
        Checks.due(read, whole(x).contains(want), true);
        x.take();
        Checks.due(read + ": load", x.load(), 0);
        Checks.due(read + ": data", Files.data(x, 2), text);
    }

    private static void streamsAreCoded() {
        String flate = Files.deflated("some text, some text");
        streamDict("", "abc", "");
        streamDict("/A 1", "", "/A 1 ");
        streamDict("/Filter /FlateDecode /A 1", flate, "/A 1 ");
        streamDict("/A 1 /Filter [ /FlateDecode ] /B 2", flate, "/A 1 /B 2 ");
        streamDict("/DecodeParms null /B << /Length 1 /Filter /X >>", "abc", "/B << /Length 1 /Filter /X >> ");
        streamDict("/Filter /ASCIIHexDecode /DecodeParms << >> /Z [ /Length ]", "6162>", "/Z [ /Length ] ");
        streamDict("/Filter [ ]", "abc", "");
        streamDict("/Lengths 1 /Filte 2 /DecodeParm 3", "abc", "/Lengths 1 /Filte 2 /DecodeParm 3 ");
        streamDict("/Type /XRef /Filter [ /ASCIIHexDecode /FlateDecode ]", Files.hex(flate), "/Type /XRef ");
    }

    private static void codesByThePlainWay() {
        for (int i = 0; i < 60; i++) {
            int letters = 1 + i % 7 * (i % 5);
            int many = i < 40 ? i * 7 : i * 90;
            String noise = Files.noise(many, i + 1);
            StringBuilder text = new StringBuilder();
            for (int k = 0; k < many; k++) {
                text.append((char) (noise.charAt(k) % letters * (1 + 255 / letters) & 255));
            }
            same("letters " + letters + ", bytes " + many, text.toString());
        }
        for (String text : new String[] {"", "a", "aa", "aaa", "aaaa", "abab", "ababab", "abcab", "abcabc", "\u008f\u0090\u00ff\0"}) {
            same(text, text);
        }
        for (int more = -2; more <= 2; more++) {
            same("rows of " + (259 + more), Files.repeat("z", 259 + more) + "y" + Files.repeat("z", 300));
            String noise = Files.noise(1997 + more, 11);
            same("distance " + (2000 + more), "abc" + noise + "abc" + noise.substring(0, 40));
        }
        // A nearer row of the same length goes ahead, a longer one farther away goes ahead of both.
        same("the nearest", "abcdX" + Files.noise(500, 2) + "abcdY" + Files.noise(500, 3) + "abcdZ" + "abcdXabcdY");
    }

    private static void same(String what, String text) {
        Checks.due("the code of " + what, Files.hex(coded(text)), Files.hex(Bits.plainCode(text)));
    }

    /** Rows of 3 to 258 bytes, at distances of all kinds. */
    private static void rowsOfAllLengths() {
        for (int from = 3; from <= 258; from += 8) {
            StringBuilder text = new StringBuilder();
            for (int length = from; length < from + 8 && length <= 258; length++) {
                String noise = Files.noise(length, length + 500);
                text.append(noise).append((char) (length & 255)).append(Files.noise(length % 50, length)).append(noise).append((char) (length + 1 & 255));
            }
            same("rows from " + from, text.toString());
        }
        same("distances", distances());
    }

    /** What references of all kinds are written as in WHOLE: those that lead nowhere as null. */
    private static void whatIsNull() {
        Files files = new Files().object(1, "<< /Type /Catalog /Pages 2 0 R /X [ 30 0 R 20 0 R 5 0 R 5 1 R 6 0 R 199 7 R 4 0 R 7 0 R ] >>")
                .object(2, Files.NO_PAGES).object(4, "null").object(5, "(five)").object(6, "6 0 R").object(7, "8 0 R").object(8, "9 1 R").object(9, "9");
        for (int n = 20; n < 50; n++) {
            files.object(n, (n + 1) + " 0 R");
        }
        files.object(50, "(end)");
        House x = Checks.loads("rows of references", files.table("/Root 1 0 R"), 0);
        String all = whole(x);
        // From 30 on it is a row of 21; one from 31 on would be of 20.
        Checks.due("what is NULL", all.contains("1 0 obj\n<< /Type /Catalog /Pages 2 0 R /X [ null null 3 0 R null null null 4 0 R null ] >>\nendobj\n"), true);
        Checks.due("a null object", all.contains("\n4 0 obj\nnull\nendobj\nxref\n0 5\n"), true);
        House y = Checks.loads("a row of 20", files20("31 0 R"), 0);
        Checks.due("a row of 20 leads to its end", whole(y).contains("/X 3 0 R >>\nendobj\n"), true);
        Checks.due("its end", Files.out(y).contains("\n3 0 obj\n(end)\nendobj\n"), true);
        House z = Checks.loads("a row of 21", files20("30 0 R"), 0);
        Checks.due("a row of 21 is null", whole(z).contains("/X null >>\nendobj\n"), true);
    }

    private static String files20(String reference) {
        Files files = new Files().object(1, "<< /Type /Catalog /Pages 2 0 R /X " + reference + " >>").object(2, Files.NO_PAGES);
        for (int n = 30; n < 50; n++) {
            files.object(n, (n + 1) + " 0 R");
        }
        return files.object(50, "(end)").table("/Root 1 0 R");
    }

    private static void onceEach() {
        House x = Checks.loads("met more than once", new Files().object(3, "<< /Type /Catalog /A 9 0 R /Pages 5 0 R /B 9 0 R /C 7 0 R /Me 3 0 R >>")
                .object(5, Files.NO_PAGES).object(7, "[ 8 0 R 9 0 R ]").object(8, "(eight)").object(9, "[ 7 0 R 3 0 R 10 0 R ]").object(10, "<< /P 9 0 R >>")
                .object(11, "(never met)").object(12, "[ 11 0 R 3 0 R ]").table("/Root 3 0 R /Info 10 0 R /Other 12 0 R"), 0);
        String all = whole(x);
        String body = all.substring(0, all.indexOf("xref\n"));
        Checks.due("in the order of meeting", body, "%PDF-1.7\n1 0 obj\n<< /Type /Catalog /A 3 0 R /Pages 4 0 R /B 3 0 R /C 5 0 R /Me 1 0 R >>\nendobj\n"
                + "2 0 obj\n<< /P 3 0 R >>\nendobj\n3 0 obj\n[ 5 0 R 1 0 R 2 0 R ]\nendobj\n4 0 obj\n" + Files.NO_PAGES + "\nendobj\n"
                + "5 0 obj\n[ 6 0 R 3 0 R ]\nendobj\n6 0 obj\n(eight)\nendobj\n");
        StringBuilder table = new StringBuilder("xref\n0 7\n0000000000 65535 f \n");
        for (int n = 1; n <= 6; n++) {
            table.append(String.format("%010d 00000 n \n", body.indexOf("\n" + n + " 0 obj\n") + 1));
        }
        Checks.due("the table and what is behind", all.substring(body.length()), table + "trailer\n<< /Size 7 /Root 1 0 R /Info 2 0 R >>\nstartxref\n"
                + body.length() + "\n%%EOF\n");
    }

    /** All of 199 objects are met: 2 in the root's entries, the others in an array of references. */
    private static void wholeOfAll() {
        StringBuilder pairs = new StringBuilder();
        StringBuilder all = new StringBuilder();
        StringBuilder references = new StringBuilder();
        for (int n = 5; n < 200; n++) {
            pairs.append(n).append(' ').append(all.length()).append(' ');
            all.append(n).append(' ');
            references.append(n).append(" 0 R ");
        }
        Files files = new Files().object(1, "<< /Type /Catalog /Pages 2 0 R /A [ 3 0 R 4 0 R " + references + "] >>").object(2, Files.NO_PAGES)
                .stream(3, "/Type /ObjStm /N 195 /First " + pairs.length() + " /Filter /FlateDecode", Files.deflated(pairs.toString() + all));
        int begin = files.length();
        StringBuilder rows = new StringBuilder();
        for (int n = 1; n < 200; n++) {
            int place = n < 4 ? files.placeOf(n) : n == 4 ? begin : 3;
            rows.append((char) (n < 5 ? 1 : 2)).append((char) (place >> 8)).append((char) (place & 255)).append((char) (n < 5 ? 0 : n - 5));
        }
        String flate = Files.deflated(rows.toString());
        files.raw("4 0 obj << /Type /XRef /Size 200 /W [ 1 2 1 ] /Index [ 1 199 ] /Root 1 0 R /Filter /FlateDecode /Length " + flate.length()
                + " >> stream\n" + flate + "\nendstream endobj ");
        House x = Checks.loads("199 objects", files.end(begin), 0);
        Checks.due("objects", x.objects(), 199);
        String whole = whole(x);
        Checks.due("the last one", whole.contains("\n199 0 obj\n199\nendobj\nxref\n0 200\n"), true);
        Checks.due("its entry", whole.contains(String.format("\n%010d 00000 n \ntrailer\n<< /Size 200 /Root 1 0 R >>\n", whole.indexOf("\n199 0 obj\n") + 1)), true);
        Checks.due("more has no number left", x.more(), -1);
    }

    private static void wholeOfGenerations() {
        Files files = new Files().object(1, "<< /Type /Catalog /Pages 2 0 R /X [ 3 7 R 3 0 R ] >>").object(2, Files.NO_PAGES);
        int three = files.length();
        files.raw("3 7 obj (x) endobj ");
        int begin = files.length();
        files.raw(String.format("xref\n1 3\n%010d 00000 n \n%010d 00000 n \n%010d 00007 n \ntrailer << /Size 4 /Root 1 0 R >>\n",
                files.placeOf(1), files.placeOf(2), three));
        House x = Checks.loads("generation 7", files.end(begin), 0);
        Checks.due("written with 0", whole(x).contains("/X [ 3 0 R null ] >>\nendobj\n"), true);
        Checks.due("its object, too", Files.out(x).contains("\n3 0 obj\n(x)\nendobj\n"), true);
    }

    /** A house whose document is written as so many bytes by a way, made longer by its Title. */
    private static House written(boolean inWhole, int bytes) {
        int pages = bytes > 10000 ? 5 : 1;
        House x = Checks.loads("a heavy document", Files.heavy(pages, (bytes - (inWhole ? 1600 : 2600)) / pages - 100), pages);
        for (int k = 0; k < pages; k++) {
            x.turn(k, 90);
        }
        Files.info(x, 0, "");
        int left = bytes - (inWhole ? x.whole() : x.more());
        Checks.due("what a Title can make up for", left >= 0 && left < 1900, true);
        Files.info(x, 0, Files.repeat("t", Math.max(0, Math.min(2000, left))));
        return x;
    }

    private static void theOutIsFull() {
        for (int more = -1; more <= 2; more++) {
            House x = written(true, 29999);
            Checks.due("whole up to 29999", x.whole(), 29999);
            grow(x, 1 + more);
            Checks.due("whole of " + (30000 + more), x.whole(), more <= 0 ? 30000 + more : -1);
            Checks.due("outs", x.outs(), more <= 0 ? 30000 + more : 0);
            Checks.due("the last byte", x.out(x.outs() - 1), more <= 0 ? 10 : -1);
            Checks.due("the sum", x.sum() == 1, more > 0);
            if (more == 0) {
                java.util.zip.Adler32 adler = new java.util.zip.Adler32();
                adler.update(Files.bytes(Files.out(x)));
                Checks.due("the sum of 30000 bytes", x.sum(), (int) adler.getValue());
            }
            x.delete(0);
            Checks.due("a smaller one", x.whole() > 9000, true);
            House y = written(false, 29999);
            Checks.due("more up to 29999", y.more(), 29999);
            grow(y, 1 + more);
            Checks.due("more of " + (30000 + more), y.more(), more <= 0 ? 30000 + more : -1);
            Checks.due("outs of more", y.outs(), more <= 0 ? 30000 + more : 0);
            Checks.due("the first byte of it", y.out(0), more <= 0 ? '%' : -1);
            Checks.due("whole is less", y.whole() > 0, true);
        }
    }

    /** The Title gets so many bytes more. */
    private static void grow(House x, int more) {
        x.go(x.count(2));
        x.down(0);
        int many = x.here(2);
        Files.info(x, 0, Files.repeat("t", many + more));
    }

    private static void theTapeIsFull() {
        for (int more = -1; more <= 1; more++) {
            House x = written(true, 7999);
            Checks.due("whole up to 7999", x.whole(), 7999);
            grow(x, 1 + more);
            Checks.due("whole of " + (8000 + more), x.whole(), 8000 + more);
            Files.feed(x, "abc");
            Checks.due("take of " + (8000 + more), x.take(), more <= 0 ? 8000 + more : -1);
            Checks.due("the tape then", x.cut(more <= 0 ? 8000 + more : 3), 0);
            Checks.due("no more than that", x.cut(more <= 0 ? 8001 + more : 4), -1);
            Checks.due("the out stays", x.outs(), 8000 + more);
            Checks.due("a full tape", x.feed(1, 2, 3, 4, 5), more <= 0 ? -1 : 23);
        }
    }

    /** Which numbers a new table tells of, row by row. */
    private static void rowsOfChanges() {
        Files files = new Files().object(1, Files.CATALOG).object(2, "<< /Type /Pages /Kids [ 4 0 R 5 0 R 7 0 R 8 0 R 9 0 R ] /Count 5 >>").object(3, "(x)")
                .object(6, "[ 11 0 R 12 0 R 15 0 R ]");
        for (int n : new int[] {4, 5, 7, 8, 9}) {
            files.object(n, Files.PAGE);
        }
        String file = files.table("/Root 1 0 R");
        listed(file, "", "0 0");
        listed(file, "0", "4 1");
        listed(file, "4", "9 1");
        listed(file, "01", "4 2");
        listed(file, "02", "4 1, 7 1");
        listed(file, "1234", "5 1, 7 3");
        listed(file, "i", "10 1");
        listed(file, "ii", "10 4");
        listed(file, "iii", "10 5");
        listed(file, "iiii", "10 7");
        listed(file, "4i", "9 2");
        listed(file, "0iii", "4 1, 10 5");
        listed(file, "d", "2 1");
        listed(file, "di3", "2 1, 8 1, 10 1");
    }

    /** Changes: a digit turns that page, i makes Info or, if there is one, a stream; d takes the last page out. */
    private static void listed(String file, String changes, String want) {
        House x = Checks.loads("changes " + changes, file, 5);
        for (char c : changes.toCharArray()) {
            if (c == 'd') {
                x.delete(4);
            } else if (c == 'i' && x.count(2) == 0) {
                Files.info(x, 0, "t");
            } else if (c == 'i') {
                x.turn(0, 0);
                Files.contents(x, 0, "");
            } else {
                x.turn(c - '0', 90);
            }
        }
        x.more();
        String more = Files.out(x).substring(file.length());
        String table = more.substring(more.indexOf("xref\n") + 5, more.indexOf("trailer\n"));
        StringBuilder rows = new StringBuilder();
        for (String line : table.split("\n")) {
            if (line.length() < 19) {
                rows.append(rows.length() > 0 ? ", " : "").append(line);
            }
        }
        String due = changes.contains("ii") ? (want.startsWith("4 1") ? want : "4 1, " + want) : want;
        Checks.due("rows of " + changes, rows.toString(), due);
        x.take();
        Checks.due("it loads", x.load(), changes.contains("d") ? 4 : 5);
    }

    private static void endsOfFiles() {
        String file = Files.paged().table("/Root 1 0 R");
        String bare = file.substring(0, file.length() - 1);
        for (String end : new String[] {"", " ", "\r", "\0", "\t", "\n ", "\n\r"}) {
            House x = Checks.loads("an end", bare + end, 1);
            x.more();
            Checks.due("a 10 comes behind", Files.out(x).startsWith(bare + end + "\nxref\n0 0\n"), true);
        }
        for (String end : new String[] {"\n", "\r\n", "\n\n", " \n"}) {
            House x = Checks.loads("an end of 10", bare + end, 1);
            x.more();
            Checks.due("no 10 comes behind", Files.out(x).startsWith(bare + end + "xref\n0 0\n"), true);
            Checks.due("its place", Files.out(x).endsWith("startxref\n" + (bare + end).length() + "\n%%EOF\n"), true);
        }
    }

    /** Root and Info in what is written are the last objects of rows. */
    private static void rootsAsTheyAre() {
        House x = Checks.loads("rows", Files.paged().object(4, "1 0 R").object(5, "6 0 R").object(6, "<< >>").table("/Root 4 0 R /Info 5 0 R"), 1);
        x.more();
        Checks.due("in more", Files.out(x).contains("<< /Size 7 /Root 1 0 R /Info 6 0 R /Prev "), true);
        x.whole();
        Checks.due("in whole", Files.out(x).contains("<< /Size 5 /Root 1 0 R /Info 2 0 R >>"), true);
        x.more();
        x.take();
        Checks.due("it loads", x.load(), 1);
        Checks.due("Root", x.count(1), 1);
        Checks.due("Info", x.count(2), 6);
        House y = Checks.loads("no Info", Files.paged().table("/Root 1 0 R"), 1);
        Files.info(y, 0, "");
        y.more();
        Checks.due("a new Info", Files.out(y).contains("<< /Size 5 /Root 1 0 R /Info 4 0 R /Prev "), true);
    }

    /** The number of a new row stream. */
    private static void ownNumbers() {
        own("", "", "5 1", 6);
        own("t", "", "3 1 5 1", 6);
        own("", "/X 5 0 R ", "5 2", 7);
        own("t", "/X [ 5 0 R 6 3 R ] ", "3 1 5 3", 8);
        own("c", "", "3 1 5 2", 7);
        own("c", "/X 6 0 R ", "3 1 5 3", 8);
        own("i", "", "5 2", 7);
        own("i", "/X [ 5 0 R 7 0 R ] ", "5 4", 9);
        for (int size = 198; size <= 200; size++) {
            for (String named : new String[] {"", "/X 199 0 R "}) {
                House x = Checks.loads("Size " + size, rowFile(named).replace("/Size 5 ", "/Size " + size + " "), 1);
                boolean fits = size == 198 || size == 199 && named.isEmpty();
                x.whole();
                Checks.due("more at " + size + named, x.more() > 0, fits);
                Checks.due("outs at " + size + named, x.outs() > 0, fits);
                if (fits) {
                    Checks.due("Size in it", Files.out(x).contains("\n" + size + " 0 obj\n<< /Type /XRef /Size " + (size + 1) + " /W "), true);
                    x.take();
                    Checks.due("it loads", x.load(), 1);
                    Checks.due("its Size", x.count(0), size + 1);
                }
            }
        }
    }

    private static void own(String change, String entry, String index, int size) {
        House x = Checks.loads("own " + change, rowFile(entry), 1);
        if (change.equals("t")) {
            x.turn(0, 90);
        } else if (change.equals("c")) {
            Files.contents(x, 0, "S");
        } else if (change.equals("i")) {
            Files.info(x, 0, "t");
        }
        int changed = x.count(6);
        int before = x.count(0);
        x.more();
        Checks.due("own " + change + entry, Files.out(x).contains("\n" + (size - 1) + " 0 obj\n<< /Type /XRef /Size " + size + " /W [ 1 4 2 ] /Index [ " + index
                + " ] /Root 1 0 R "), true);
        Checks.due("Size stays", x.count(0), before);
        Checks.due("so does what is changed", x.count(6), changed);
        Checks.due("its number stays free", x.go(size - 1), -1);
        String once = Files.out(x);
        x.more();
        Checks.due("once more", Files.out(x), once);
        x.take();
        Checks.due("it loads", x.load(), 1);
        Checks.due("two sections", x.count(3), 2);
        Checks.due("its place", x.count(5), once.lastIndexOf("\n" + (size - 1) + " 0 obj\n") + 1);
        Checks.due("the stream itself", x.go(size - 1), 9);
    }

    private static void generationsInRows() {
        Files files = new Files().object(1, Files.CATALOG.replace("2 0 R", "2 772 R")).object(3, Files.PAGE.replace("2 0 R", "2 772 R"));
        int two = files.length();
        files.raw("2 772 obj " + Files.ONE_PAGE + " endobj ");
        int begin = files.length();
        StringBuilder rows = new StringBuilder();
        for (int place : new int[] {files.placeOf(1), two, files.placeOf(3)}) {
            rows.append((char) (place >> 8)).append((char) (place & 255)).append(place == two ? "\3\4" : "\0\0");
        }
        files.raw("4 0 obj << /Type /XRef /Size 5 /W [ 0 2 2 ] /Index [ 1 3 ] /Root 1 0 R /Length 12 >> stream\n" + rows + "\nendstream endobj ");
        House x = Checks.loads("generation 772", files.end(begin), 1);
        x.delete(0);
        x.more();
        x.take();
        Checks.due("it loads", x.load(), 0);
        Checks.due("the row", Files.data(x, 5).substring(5, 7), "\3\4");
        Checks.due("of the last", Files.data(x, 5).substring(12, 14), "\0\0");
    }

    /** Each way writes the same again, whatever was written or read between. */
    private static void writtenAgain() {
        House x = Checks.loads("two streams", new Files().object(1, "<< /Type /Catalog /A 3 0 R /B 4 0 R /Pages 2 0 R >>").object(2, Files.NO_PAGES)
                .stream(3, "", "abcdefabcdefghi").stream(4, "", "xabcdefghi, abcdefghi").object(5, "(x)").table("/Root 1 0 R"), 0);
        String first = whole(x);
        Checks.due("the second stream's code", first.contains(Bits.plainCode("xabcdefghi, abcdefghi")), true);
        Checks.due("the first one's", first.contains(Bits.plainCode("abcdefabcdefghi")), true);
        x.more();
        String more = Files.out(x);
        Checks.due("whole again", whole(x), first);
        x.more();
        Checks.due("more again", Files.out(x), more);
        Files.info(x, 0, "t");
        String titled = whole(x);
        Checks.due("another one", titled.equals(first), false);
        Files.load(x, "nothing");
        Checks.due("whole without a document", x.whole(), -1);
        Checks.due("the out is empty", x.outs(), 0);
        Checks.due("more without a document", x.more(), -1);
    }
}
