import java.util.zip.Deflater;

/** Promises 4, 5, 6, 12 and 13: objects where they stand, streams, filters, object streams. */
public final class StreamTest {
    private static final int PLACE = Files.empty().length();

    public static void main(String[] args) {
        plainStreams();
        streamsWrong();
        lengths();
        lengthsWrong();
        objectsWrong();
        filters();
        filtersWrong();
        hexWrong();
        flate();
        flateWrong();
        flateTables();
        predictors();
        randomPredictors();
        predictorsWrong();
        manyBytes();
        objectStreams();
        objectStreamsWrong();
        manyTexts();
        Checks.end();
    }

    private static String file(String body) {
        return Files.empty().object(3, body).table("/Root 1 0 R");
    }

    private static void wrong(String what, String body, int fault) {
        Checks.refuses(what, file(body), fault, PLACE);
    }

    private static String stream(String entries, String data) {
        return "<< " + entries + " /Length " + data.length() + " >>\nstream\n" + data + "\nendstream";
    }

    private static void decodes(String what, String entries, String data, String want) {
        PaperHouse x = Checks.loads(what, file(stream(entries, data)), 0);
        Checks.due(what + ": size", x.size(3), want.length());
        Checks.due(what + ": data", Files.data(x, 3), want);
        Checks.due(what + ": behind", x.data(3, want.length()), -1);
    }

    private static void plainStreams() {
        decodes("plain", "", "ab\0\u00ffc", "ab\0\u00ffc");
        decodes("empty", "", "", "");
        decodes("a remark inside", "", "%abc", "%abc");
        PaperHouse x = Checks.loads("CR LF", file("<< /Length 2 >> %x\nstream\r\nabendstream"), 0);
        Checks.due("CR LF: size", x.size(3), 2);
        Checks.due("size of a dict", x.size(1), -1);
        Checks.due("size of none", x.size(9), -1);
        Checks.due("size below", x.size(-1), -1);
        Checks.due("data of a dict", x.data(1, 0), -1);
        Checks.due("data below", x.data(3, -1), -1);
        Checks.due("data", x.data(3, 1), 'b');
        Checks.loads("white behind", file("<< /Length 2 >>stream\nab\r\n \t%x\n\nendstream%x\n"), 0);
    }

    private static void streamsWrong() {
        wrong("CR alone", "<< /Length 2 >>\nstream\rab\nendstream", 6);
        wrong("a blank", "<< /Length 2 >>\nstream \nab\nendstream", 6);
        wrong("no endstream", "<< /Length 2 >>\nstream\nab\n", 6);
        wrong("too short", "<< /Length 1 >>\nstream\nab\nendstream", 6);
        wrong("too long", "<< /Length 9000 >>\nstream\nab\nendstream", 6);
        wrong("far too long", "<< /Length 2147483647 >>\nstream\nab\nendstream", 6);
        wrong("no Length", "<< >>\nstream\nab\nendstream", 6);
        wrong("Length below 0", "<< /Length -1 >>\nstream\nab\nendstream", 6);
        wrong("Length a real", "<< /Length 2.0 >>\nstream\nab\nendstream", 6);
        wrong("no dict", "[ ]\nstream\nab\nendstream", 6);
        wrong("a longer word", "<< /Length 2 >>\nstream\nab\nendstreams", 6);
    }

    private static void lengths() {
        PaperHouse x = Checks.loads("behind", Files.empty()
                .object(3, "<< /Length 5 0 R >> stream\nabc\nendstream").object(5, "3").table("/Root 1 0 R"), 0);
        Checks.due("behind: size", x.size(3), 3);
        PaperHouse y = Checks.loads("ahead", Files.empty()
                .object(3, "3").object(5, "<< /Length 3 0 R >> stream\nabc\nendstream").table("/Root 1 0 R"), 0);
        Checks.due("ahead: data", Files.data(y, 5), "abc");
    }

    private static void length(String what, String reference, String other, int fault, boolean ofOther) {
        Files files = Files.empty().object(3, "<< /Length " + reference + " >> stream\nabc\nendstream").object(5, other);
        int place = files.placeOf(ofOther ? 5 : 3);
        Checks.refuses(what, files.table("/Root 1 0 R"), fault, place);
    }

    private static void lengthsWrong() {
        length("of itself", "3 0 R", "3", 6, false);
        length("of none", "9 0 R", "3", 6, false);
        length("of another generation", "5 1 R", "3", 6, false);
        length("of a reference", "5 0 R", "1 0 R", 6, false);
        length("of a real", "5 0 R", "3.0", 6, false);
        length("below 0", "5 0 R", "-3", 6, false);
        length("of a stream", "5 0 R", "<< /Length 1 >> stream\nabc\nendstream", 6, true);
        length("of a good stream", "5 0 R", "<< /Length 3 >> stream\nabc\nendstream", 6, false);
        length("of one that waits", "5 0 R", "<< /Length 3 0 R >> stream\nabc\nendstream", 6, true);
        Files deep = Files.empty();
        for (int n = 3; n < 120; n++) {
            deep.object(n, "<</Length " + (n + 1) + " 0 R>>stream\n\nendstream");
        }
        int last = deep.object(120, "<</Length 3 0 R>>stream\n\nendstream").placeOf(120);
        int begin = deep.length();
        StringBuilder rows = new StringBuilder();
        for (int n = 1; n <= 120; n++) {
            rows.append((char) (deep.placeOf(n) >> 8)).append((char) (deep.placeOf(n) & 255));
        }
        deep.raw("9 0 obj << /Type /XRef /Size 121 /W [ 0 2 0 ] /Index [ 1 120 ] /Root 1 0 R /Length 240 >> stream\n"
                + rows + "\nendstream endobj ");
        Checks.refuses("a long row of lengths", deep.end(begin), 6, last);
    }

    private static void objectsWrong() {
        Files far = Files.empty().at(3, 9000);
        String file = far.table("/Root 1 0 R");
        Checks.refuses("beyond the file", file, 6, file.length());
        Files other = Files.empty();
        int place = other.placeOf(2);
        Checks.refuses("another number", other.at(3, place).table("/Root 1 0 R"), 6, place);
        Checks.refuses("another generation", Files.empty().raw("3 1 obj null endobj ").at(3, PLACE).table("/Root 1 0 R"), 6, PLACE);
        Checks.refuses("a sign", Files.empty().raw("+3 0 obj null endobj ").at(3, PLACE).table("/Root 1 0 R"), 6, PLACE);
        Checks.refuses("no obj", Files.empty().raw("3 0 obi null endobj ").at(3, PLACE).table("/Root 1 0 R"), 6, PLACE);
        Checks.refuses("no endobj", Files.empty().raw("3 0 obj null endob ").at(3, PLACE).table("/Root 1 0 R"), 6, PLACE);
        Checks.refuses("two objects", Files.empty().raw("3 0 obj null null endobj ").at(3, PLACE).table("/Root 1 0 R"), 6, PLACE);
        Checks.loads("white ahead", Files.empty().raw("  %x\n3 0 obj null endobj ").at(3, PLACE).table("/Root 1 0 R"), 0);
        Checks.loads("zeros ahead", Files.empty().raw("003 00%\nobj/A endobj ").at(3, PLACE).table("/Root 1 0 R"), 0);
        Checks.refuses("the white's place counts", Files.empty().raw("  %x\n3 0 obj null ").at(3, PLACE).table("/Root 1 0 R"), 6, PLACE);
    }

    private static void filters() {
        String text = "some bytes some bytes \0\u00ff";
        decodes("hex", "/Filter /ASCIIHexDecode", Files.hex(text), text);
        decodes("hex with white", "/Filter /ASCIIHexDecode", " 6 1\n62\r\t> \0", "ab");
        decodes("half a byte", "/Filter /ASCIIHexDecode", "617>", "ap");
        decodes("an array of one", "/Filter [ /ASCIIHexDecode ]", Files.hex(text), text);
        decodes("an array of none", "/Filter [ ]", text, text);
        decodes("flate", "/Filter /FlateDecode", Files.deflated(text), text);
        decodes("hex, flate", "/Filter [ /ASCIIHexDecode /FlateDecode ]", Files.hex(Files.deflated(text)), text);
        decodes("flate, hex, flate", "/Filter [ /FlateDecode /ASCIIHexDecode /FlateDecode ]",
                Files.deflated(Files.hex(Files.deflated(text))), text);
        decodes("parms null", "/Filter /FlateDecode /DecodeParms null", Files.deflated(text), text);
        decodes("parms of one", "/Filter [ /FlateDecode ] /DecodeParms << /Predictor 1 /Columns 999 >>", Files.deflated(text), text);
        decodes("parms of two", "/Filter [ /ASCIIHexDecode /FlateDecode ] /DecodeParms [ null << /Colors 5 >> ]",
                Files.hex(Files.deflated(text)), text);
        decodes("parms of hex", "/Filter /ASCIIHexDecode /DecodeParms << /Predictor 2 >>", Files.hex(text), text);
        decodes("parms without a filter", "/DecodeParms 5", text, text);
    }

    private static void filtersWrong() {
        String flate = Files.deflated("x");
        wrong("Filter null", stream("/Filter null", "x"), 7);
        wrong("Filter a string", stream("/Filter (x)", "x"), 7);
        wrong("Filter a reference", stream("/Filter 1 0 R", "x"), 7);
        wrong("Filter of another name", stream("/Filter /LZWDecode", "x"), 7);
        wrong("four filters", stream("/Filter [ /FlateDecode /FlateDecode /FlateDecode /FlateDecode ]", "x"), 7);
        wrong("Filter of no names", stream("/Filter [ 1 ]", "x"), 7);
        wrong("one of two is another", stream("/Filter [ /ASCIIHexDecode /Crypt ]", "zz"), 7);
        wrong("parms a whole", stream("/Filter /FlateDecode /DecodeParms 5", flate), 7);
        wrong("parms a reference", stream("/Filter /FlateDecode /DecodeParms 1 0 R", flate), 7);
        wrong("parms a dict for two", stream("/Filter [ /FlateDecode /FlateDecode ] /DecodeParms << >>", flate), 7);
        wrong("parms too few", stream("/Filter [ /FlateDecode /FlateDecode ] /DecodeParms [ null ]", flate), 7);
        wrong("parms of none", stream("/Filter [ ] /DecodeParms << >>", flate), 7);
        String dict = "/Filter /FlateDecode /DecodeParms << ";
        wrong("Predictor 2", stream(dict + "/Predictor 2 >>", flate), 7);
        wrong("Predictor 9", stream(dict + "/Predictor 9 >>", flate), 7);
        wrong("Predictor 16", stream(dict + "/Predictor 16 >>", flate), 7);
        wrong("Predictor null", stream(dict + "/Predictor null >>", flate), 7);
        wrong("Predictor a real", stream(dict + "/Predictor 1.0 >>", flate), 7);
        wrong("Columns 0", stream(dict + "/Predictor 12 /Columns 0 >>", flate), 7);
        wrong("Columns 201", stream(dict + "/Predictor 12 /Columns 201 >>", flate), 7);
        wrong("Colors 2", stream(dict + "/Predictor 12 /Colors 2 >>", flate), 7);
        wrong("BitsPerComponent 1", stream(dict + "/Predictor 12 /BitsPerComponent 1 >>", flate), 7);
        wrong("7 is behind endobj", "<< /Length 1 /Filter null >> stream\nx endstream endob", 6);
    }

    private static void hexWrong() {
        wrong("no end", stream("/Filter /ASCIIHexDecode", "6162"), 8);
        wrong("another byte", stream("/Filter /ASCIIHexDecode", "6g>"), 8);
        wrong("a remark", stream("/Filter /ASCIIHexDecode", "61%x\n>"), 8);
        wrong("more behind", stream("/Filter /ASCIIHexDecode", "61>61"), 8);
        wrong("a remark behind", stream("/Filter /ASCIIHexDecode", "61>%"), 8);
        wrong("two ends", stream("/Filter /ASCIIHexDecode", "61>>"), 8);
    }

    private static void flate() {
        StringBuilder mixed = new StringBuilder();
        for (int i = 0; i < 7000; i++) {
            mixed.append((char) (i % 7 < 3 ? 'a' + i * i % 5 : i * 31 / 7 % 200));
        }
        String[] texts = {"", "a", "abcabcabcabc", Files.repeat("a", 8000), Files.noise(3000, 5), mixed.toString()};
        int[] strategies = {Deflater.DEFAULT_STRATEGY, Deflater.FILTERED, Deflater.HUFFMAN_ONLY};
        for (String text : texts) {
            for (int strategy : strategies) {
                for (int level = 0; level <= 9; level += 3) {
                    String data = Files.deflated(text, level, strategy);
                    if (data.length() < 7000) {
                        decodes("flate " + text.length() + " " + strategy + " " + level, "/Filter /FlateDecode", data, text);
                    }
                }
            }
        }
        // A fixed block: one literal "a", then a row of 258 at distance 1; made by hand.
        Bits fixed = new Bits().add(1, 1).add(1, 2).code(48 + 'a', 8).code(197, 8).code(0, 5).code(0, 7);
        decodes("a row by hand", "/Filter /FlateDecode", fixed.zlib(Files.repeat("a", 259)), Files.repeat("a", 259));
        Bits longer = new Bits().add(1, 1).add(1, 2).code(48 + 'a', 8).code(196, 8).add(31, 5).code(0, 5).code(0, 7);
        decodes("258 by the code before", "/Filter /FlateDecode", longer.zlib(Files.repeat("a", 259)), Files.repeat("a", 259));
        Bits stored = new Bits().add(0, 1).add(0, 2).align().add(2, 16).add(65533, 16).add('h', 8).add('i', 8)
                .add(0, 1).add(1, 2).code(0, 7).add(1, 1).add(0, 2).align().add(0, 16).add(65535, 16);
        decodes("three blocks", "/Filter /FlateDecode", stored.zlib("hi"), "hi");
    }

    /** Rows of all lengths, at distances of all kinds, and codes of many sizes, coded by the library. */
    private static void flateTables() {
        for (int from = 3; from <= 258; from += 15) {
            StringBuilder text = new StringBuilder();
            for (int length = from; length < from + 15 && length <= 258; length++) {
                String noise = Files.noise(length, length);
                text.append(noise).append((char) (length & 255)).append(noise).append("..");
            }
            if (text.length() <= 8000) {
                decodes("lengths from " + from, "/Filter /FlateDecode", Files.deflated(text.toString()), text.toString());
            }
        }
        for (int distance = 10; distance < 7900; distance = distance * 9 / 8 + 1) {
            Bits bits = new Bits().add(1, 1).add(1, 2);
            String noise = Files.noise(distance, 17);
            for (int i = 0; i < distance; i++) {
                int c = noise.charAt(i);
                bits.code(c < 144 ? 48 + c : 256 + c, c < 144 ? 8 : 9);
            }
            int kind = 2;
            int base = 3;
            int more = 0;
            while (kind < 29 && distance >= base + (1 << more)) {
                base += 1 << more;
                kind++;
                more = Math.max(0, kind / 2 - 1);
            }
            bits.code(1, 7).code(kind, 5).add(distance - base, more).code(0, 7);
            String data = bits.zlib(noise + noise.substring(0, 3));
            if (data.length() < 7400) {
                decodes("distance " + distance, "/Filter /FlateDecode", data, noise + noise.substring(0, 3));
            }
        }
        StringBuilder skewed = new StringBuilder();
        int many = 1;
        int before = 1;
        for (int c = 0; skewed.length() + many < 7500; c++) {
            skewed.append(Files.repeat("" + (char) (c * 7 + 3), many));
            int sum = many + before;
            before = many;
            many = sum;
        }
        StringBuilder mixed = new StringBuilder();
        for (int i = 0; i < skewed.length(); i++) {
            mixed.append(skewed.charAt((int) ((i * 4099L) % skewed.length())));
        }
        for (int level = 1; level <= 9; level += 4) {
            decodes("skewed", "/Filter /FlateDecode", Files.deflated(mixed.toString(), level, Deflater.HUFFMAN_ONLY), mixed.toString());
            decodes("skewed rows", "/Filter /FlateDecode", Files.deflated(mixed.toString(), level, Deflater.DEFAULT_STRATEGY), mixed.toString());
        }
    }

    private static void flateBad(String what, String data) {
        wrong(what, stream("/Filter /FlateDecode", data), 8);
    }

    private static void flateWrong() {
        String good = Files.deflated("abcabcabcabcabc");
        flateBad("nothing", "");
        flateBad("one byte", "x");
        flateBad("method 7", "\u0077" + good.substring(1));
        flateBad("window 8", "\u0088\u001c" + good.substring(2));
        flateBad("check", "x\u009d" + good.substring(2));
        flateBad("dictionary", "x\u00bb" + good.substring(2));
        flateBad("adler", good.substring(0, good.length() - 1) + "!");
        flateBad("a byte behind", good + "\0");
        flateBad("a byte lacking", good.substring(0, good.length() - 1));
        flateBad("block of kind 3", new Bits().add(1, 1).add(3, 2).add(0, 20).zlib(""));
        flateBad("stored check", new Bits().add(1, 1).add(0, 2).align().add(1, 16).add(65533, 16).add('a', 8).zlib("a"));
        flateBad("distance beyond", new Bits().add(1, 1).add(1, 2).code(48 + 'a', 8).code(1, 7).code(1, 5).code(0, 7).zlib("aaaa"));
        flateBad("code 286", new Bits().add(1, 1).add(1, 2).code(48 + 'a', 8).code(198, 8).code(0, 5).code(0, 7).zlib("aaaa"));
        flateBad("distance code 30", new Bits().add(1, 1).add(1, 2).code(48 + 'a', 8).code(1, 7).code(30, 5).code(0, 7).zlib("aaaa"));
        flateBad("8001 bytes", Files.deflated(Files.repeat("a", 8001)));
        decodes("no distance codes", "/Filter /FlateDecode", dynamic(new int[] {}, false).zlib("a"), "a");
        decodes("one distance code", "/Filter /FlateDecode", dynamic(new int[] {1}, false).zlib("a"), "a");
        flateBad("one distance code of two bits", dynamic(new int[] {2}, false).zlib("a"));
        flateBad("three distance codes of one bit", dynamic(new int[] {1, 1, 1}, false).zlib("a"));
        flateBad("no code 256", dynamic(new int[] {1}, true).zlib("a"));
    }

    /** A dynamic block of one "a"; the codes 97, 256 (or 257 instead) have one bit each. */
    private static Bits dynamic(int[] far, boolean without256) {
        int[] sizes = new int[258 + Math.max(1, far.length)];
        sizes['a'] = 1;
        sizes[without256 ? 257 : 256] = 1;
        System.arraycopy(far, 0, sizes, 258, far.length);
        // The sizes are told by codes of two bits for 0, 1, 2 and 18.
        int[] order = {16, 17, 18, 0, 8, 7, 9, 6, 10, 5, 11, 4, 12, 3, 13, 2, 14, 1, 15};
        Bits bits = new Bits().add(1, 1).add(2, 2).add(1, 5).add(Math.max(1, far.length) - 1, 5).add(14, 4);
        for (int i = 0; i < 18; i++) {
            bits.add(order[i] <= 2 || order[i] == 18 ? 2 : 0, 3);
        }
        bits.code(3, 2).add(97 - 11, 7).code(1, 2).code(3, 2).add(127, 7).code(3, 2).add(9, 7);
        for (int i = 256; i < sizes.length; i++) {
            bits.code(sizes[i], 2);
        }
        return bits.code(0, 1).code(1, 1);
    }

    private static void predictors() {
        String head = "/Filter /FlateDecode /DecodeParms << /Predictor 15 /Columns 3 >>";
        String rows = "\0abc" + "\1\1\1\1" + "\2\1\1\1" + "\3\2\2\2" + "\4\1\2\3";
        // Left adds 1 each; up adds 1 each; average: (0+2)/2+2.. ; Paeth as published.
        String want = "abc" + "\1\2\3" + "\2\3\4" + "\3\5\6" + "\4\7\n";
        decodes("predictor rows", head, Files.deflated(rows), want);
        decodes("no rows", head, Files.deflated(""), "");
        decodes("columns 1", "/Filter /FlateDecode /DecodeParms << /Predictor 10 >>", Files.deflated("\0a\2\1"), "ab");
        decodes("all of them", "/Filter [ /FlateDecode ] /DecodeParms [ << /Predictor 12 /Columns 200 /Colors 1"
                + " /BitsPerComponent 8 >> ]", Files.deflated("\1" + Files.repeat("\1", 200)), counting(200));
        String paeth = "\0\12\24\36" + "\4\1\1\1";
        decodes("Paeth", head, Files.deflated(paeth), "\12\24\36" + "\13\25\37");
        String upLeft = "\0\144\12\12" + "\0\12\144\12" + "\4\0\0\0";
        decodes("Paeth's choices", head, Files.deflated(upLeft), "\144\12\12" + "\12\144\12" + "\12\144\12");
    }

    /** Rows of all kinds, taken back by the published words: Paeth's guess is the nearest of three. */
    private static void randomPredictors() {
        for (int columns = 1; columns <= 40; columns += 13) {
            String noise = Files.noise(60 * (columns + 1), columns);
            StringBuilder rows = new StringBuilder();
            StringBuilder want = new StringBuilder();
            for (int row = 0; row < 60; row++) {
                int kind = row % 5;
                rows.append((char) kind);
                for (int i = 0; i < columns; i++) {
                    int value = noise.charAt(row * (columns + 1) + i);
                    int at = want.length();
                    int left = i > 0 ? want.charAt(at - 1) : 0;
                    int above = row > 0 ? want.charAt(at - columns) : 0;
                    int corner = i > 0 && row > 0 ? want.charAt(at - columns - 1) : 0;
                    int[] guesses = {0, left, above, (left + above) / 2, left};
                    for (int guess : new int[] {above, corner}) {
                        int far = Math.abs(left + above - corner - guess);
                        if (far < Math.abs(left + above - corner - guesses[4])) {
                            guesses[4] = guess;
                        }
                    }
                    rows.append((char) (value - guesses[kind] & 255));
                    want.append((char) value);
                }
            }
            decodes("rows of " + columns, "/Filter /FlateDecode /DecodeParms << /Predictor 15 /Columns " + columns + " >>",
                    Files.deflated(rows.toString()), want.toString());
        }
    }

    private static String counting(int many) {
        StringBuilder all = new StringBuilder();
        for (int i = 1; i <= many; i++) {
            all.append((char) (i & 255));
        }
        return all.toString();
    }

    private static void predictorsWrong() {
        String head = "/Filter /FlateDecode /DecodeParms << /Predictor 10 /Columns 3 >>";
        wrong("part of a row", stream(head, Files.deflated("\0abc\0a")), 8);
        wrong("kind 5", stream(head, Files.deflated("\5abc")), 8);
    }

    private static void manyBytes() {
        Files files = Files.empty();
        String zeros = Files.deflated(Files.repeat("\0", 8000));
        for (int n = 3; n < 8; n++) {
            files.stream(n, "/Filter /FlateDecode", zeros);
        }
        Checks.loads("just 40000", files.stream(8, "", "").table("/Root 1 0 R"), 0);
        files = Files.empty();
        for (int n = 3; n < 8; n++) {
            files.stream(n, "/Filter /FlateDecode", zeros);
        }
        files.stream(8, "", "x");
        int place = files.placeOf(8);
        Checks.refuses("40001", files.table("/Root 1 0 R"), 8, place);
    }

    /** Objects 4 and 5 are in the stream 3; the newest section is a row stream. */
    private static String inside(String entries, String data, int holder, int index) {
        Files files = Files.empty().stream(3, entries, data);
        return insideRows(files, holder, index);
    }

    private static String insideRows(Files files, int holder, int index) {
        int begin = files.length();
        StringBuilder rows = new StringBuilder();
        for (int n = 1; n <= 3; n++) {
            rows.append('\1').append((char) (files.placeOf(n) >> 8)).append((char) (files.placeOf(n) & 255)).append('\0');
        }
        rows.append('\2').append('\0').append((char) holder).append((char) index);
        files.raw("9 0 obj << /Type /XRef /Size 5 /W [ 1 2 1 ] /Index [ 1 4 ] /Root 1 0 R /Length 16 >> stream\n" + rows
                + "\nendstream endobj ");
        return files.end(begin);
    }

    private static void objectStreams() {
        PaperHouse x = Checks.loads("inside", inside("/Type /ObjStm /N 2 /First 8 ", "7 0 4 3 [] (in)", 3, 1), 0);
        Checks.due("inside: kind", x.go(4), 5);
        Checks.due("inside: letters", Files.letters(x, false), "in");
        Checks.due("inside: objects", x.objects(), 4);
        PaperHouse y = Checks.loads("inside flate", inside("/Type /ObjStm /N 1 /First 6 /Filter /FlateDecode",
                Files.deflated("4%x\n 0 1 0 R"), 3, 0), 0);
        Checks.due("a reference inside", y.go(4), 8);
        Checks.due("no stream inside", Checks.loads("dict", inside("/Type /ObjStm /N 1 /First 4", "4 0 << /Length 1 >> stream", 3, 0), 0).go(4), 7);
    }

    private static void insideWrong(String what, String entries, String data, int index, int fault, int place) {
        Checks.refuses(what, inside(entries, data, 3, index), fault, place);
    }

    private static void objectStreamsWrong() {
        String good = "/Type /ObjStm /N 2 /First 8 ";
        String data = "7 0 4 3 [] (in)";
        insideWrong("another Type", good.replace("Stm", "StM"), data, 1, 6, PLACE);
        insideWrong("no N", good.replace("/N", "/M"), data, 1, 6, PLACE);
        insideWrong("N 201", good.replace("/N 2", "/N 201"), data, 1, 6, PLACE);
        insideWrong("First below 0", good.replace("First 8", "First -8"), data, 1, 6, PLACE);
        insideWrong("Type a reference", good.replace("/ObjStm", "1 0 R"), data, 1, 6, PLACE);
        insideWrong("too few pairs", good.replace("/N 2", "/N 3"), data, 1, 6, PLACE);
        insideWrong("a sign", good, "7 0 4 +3[] (in)", 1, 6, PLACE);
        insideWrong("a wrong pair elsewhere", good, "7 x 4 3 [] (in)", 1, 6, PLACE);
        insideWrong("another number", good, data, 0, 6, PLACE);
        insideWrong("another index", good, data, 2, 6, PLACE);
        insideWrong("a token", good, "7 0 4 3 [] in", 1, 4, 11);
        insideWrong("a limit", good, "7 0 4 3 [] 0 0 R ", 1, 5, 11);
        insideWrong("the end", good, "7 0 4 7 []  ", 1, 4, 12);
        insideWrong("beyond the end", good, "7 0 4 99[] ", 1, 4, 11);
        String file = inside(good, data, 9, 1);
        Checks.refuses("in none", file, 6, file.length());
        Checks.refuses("in a dict", inside(good, data, 1, 1), 6, Files.empty().placeOf(1));
        String inItself = inside(good, data, 4, 1);
        Checks.refuses("in one inside", inItself, 6, inItself.length());
    }

    /** 60000 bytes of texts: the same string of 2000 bytes is read again and again. */
    private static void manyTexts() {
        for (int more = 0; more <= 1; more++) {
            Files files = Files.empty();
            // Names: of objects 1 and 2, the stream 3, the row stream; they leave so much for strings.
            int names = 4 + 7 + 5 + 4 + 5 + 4 + 5 + 4 + 6 + 1 + 5 + 6 + 6 + 11 + 4 + 4 + 1 + 4 + 5 + 4 + 6;
            int last = 60000 - names - 29 * 2000 + more;
            StringBuilder head = new StringBuilder();
            for (int n = 4; n < 34; n++) {
                head.append(n).append(n == 33 ? " 2010 " : " 0 ");
            }
            String data = head + "(" + Files.repeat("x", 2000) + ")" + Files.repeat(" ", 8) + "(" + Files.repeat("y", last) + ")";
            files.stream(3, "/Type /ObjStm /N 30 /First " + head.length() + " /Filter /FlateDecode", Files.deflated(data));
            int begin = files.length();
            StringBuilder rows = new StringBuilder();
            for (int n = 1; n <= 33; n++) {
                int place = n <= 3 ? files.placeOf(n) : 3;
                rows.append((char) (n <= 3 ? 1 : 2)).append((char) (place >> 8)).append((char) (place & 255))
                        .append((char) Math.max(0, n - 4));
            }
            files.raw("99 0 obj << /Type /XRef /Size 34 /W [ 1 2 1 ] /Index [ 1 33 ] /Root 1 0 R /Length 132 >> stream\n"
                    + rows + "\nendstream endobj ");
            if (more == 0) {
                Checks.due("60000 bytes: objects", Checks.loads("60000 bytes", files.end(begin), 0).objects(), 33);
            } else {
                Checks.refuses("60001 bytes", files.end(begin), 5, head.length() + 2010);
            }
        }
    }
}
