import java.util.zip.Deflater;

/** Promises 4, 5, 6, 12 and 13: objects where they stand, streams, filters, object streams. */
public final class StreamTest {
    private static final int PLACE = Files.empty().length();

    public static void main(String[] args) {
        plainStreams();
        streamsWrong();
        lengths();
        lengthsWrong();
        objectsWrong();
        filters();
        filtersWrong();
        hexWrong();
        flate();
        flateWrong();
        flateTables();
        predictors();
        randomPredictors();
        predictorsWrong();
        manyBytes();
        objectStreams();
        objectStreamsWrong();
        manyTexts();
        placesOfObjects();
        headsOfObjects();
        byRisingNumbers();
        bodies();
        lengthsElsewhere();
        readOnce();
        afterARefusal();
        readAgain();
        parmsAtTheirEdges();
        parmsOfMany();
        filterNames();
        hexBytes();
        flateHeads();
        flateTails();
        flateCutShort();
        flateSizes();
        dynamicCounts();
        dynamicCodes();
        dynamicRepeats();
        dynamicSizes();
        dynamicTwice();
        rowsOfBytes();
        predictorRows();
        streamsInside();
        placesInside();
        holders();
        Checks.end();
    }

    private static String file(String body) {
        return Files.empty().object(3, body).table("/Root 1 0 R");
    }

    private static void wrong(String what, String body, int fault) {
        Checks.refuses(what, file(body), fault, PLACE);
    }

    private static String stream(String entries, String data) {
        return "<< " + entries + " /Length " + data.length() + " >>\nstream\n" + data + "\nendstream";
    }

    private static void decodes(String what, String entries, String data, String want) {
        House x = Checks.loads(what, file(stream(entries, data)), 0);
        Checks.due(what + ": size", x.size(3), want.length());
        Checks.due(what + ": data", Files.data(x, 3), want);
        Checks.due(what + ": behind", x.data(3, want.length()), -1);
    }

    private static void plainStreams() {
        decodes("plain", "", "ab\0\u00ffc", "ab\0\u00ffc");
        decodes("empty", "", "", "");
        decodes("a remark inside", "", "%abc", "%abc");
        House x = Checks.loads("CR LF", file("<< /Length 2 >> %x\nstream\r\nabendstream"), 0);
        Checks.due("CR LF: size", x.size(3), 2);
        Checks.due("size of a dict", x.size(1), -1);
        Checks.due("size of none", x.size(9), -1);
        Checks.due("size below", x.size(-1), -1);
        Checks.due("data of a dict", x.data(1, 0), -1);
        Checks.due("data below", x.data(3, -1), -1);
        Checks.due("data", x.data(3, 1), 'b');
        Checks.loads("white behind", file("<< /Length 2 >>stream\nab\r\n \t%x\n\nendstream%x\n"), 0);
    }

    private static void streamsWrong() {
        wrong("CR alone", "<< /Length 2 >>\nstream\rab\nendstream", 6);
        wrong("a blank", "<< /Length 2 >>\nstream \nab\nendstream", 6);
        wrong("no endstream", "<< /Length 2 >>\nstream\nab\n", 6);
        wrong("too short", "<< /Length 1 >>\nstream\nab\nendstream", 6);
        wrong("too long", "<< /Length 9000 >>\nstream\nab\nendstream", 6);
        wrong("far too long", "<< /Length 2147483647 >>\nstream\nab\nendstream", 6);
        wrong("no Length", "<< >>\nstream\nab\nendstream", 6);
        wrong("Length below 0", "<< /Length -1 >>\nstream\nab\nendstream", 6);
        wrong("Length a real", "<< /Length 2.0 >>\nstream\nab\nendstream", 6);
        wrong("no dict", "[ ]\nstream\nab\nendstream", 6);
        wrong("a longer word", "<< /Length 2 >>\nstream\nab\nendstreams", 6);
    }

    private static void lengths() {
        House x = Checks.loads("behind", Files.empty()
                .object(3, "<< /Length 5 0 R >> stream\nabc\nendstream").object(5, "3").table("/Root 1 0 R"), 0);
        Checks.due("behind: size", x.size(3), 3);
        House y = Checks.loads("ahead", Files.empty()
                .object(3, "3").object(5, "<< /Length 3 0 R >> stream\nabc\nendstream").table("/Root 1 0 R"), 0);
        Checks.due("ahead: data", Files.data(y, 5), "abc");
    }

    private static void length(String what, String reference, String other, int fault, boolean ofOther) {
        Files files = Files.empty().object(3, "<< /Length " + reference + " >> stream\nabc\nendstream").object(5, other);
        int place = files.placeOf(ofOther ? 5 : 3);
        Checks.refuses(what, files.table("/Root 1 0 R"), fault, place);
    }

    private static void lengthsWrong() {
        length("of itself", "3 0 R", "3", 6, false);
        length("of none", "9 0 R", "3", 6, false);
        length("of another generation", "5 1 R", "3", 6, false);
        length("of a reference", "5 0 R", "1 0 R", 6, false);
        length("of a real", "5 0 R", "3.0", 6, false);
        length("below 0", "5 0 R", "-3", 6, false);
        length("of a stream", "5 0 R", "<< /Length 1 >> stream\nabc\nendstream", 6, true);
        length("of a good stream", "5 0 R", "<< /Length 3 >> stream\nabc\nendstream", 6, false);
        length("of one that waits", "5 0 R", "<< /Length 3 0 R >> stream\nabc\nendstream", 6, true);
        Files deep = Files.empty();
        for (int n = 3; n < 120; n++) {
            deep.object(n, "<</Length " + (n + 1) + " 0 R>>stream\n\nendstream");
        }
        int last = deep.object(120, "<</Length 3 0 R>>stream\n\nendstream").placeOf(120);
        int begin = deep.length();
        StringBuilder rows = new StringBuilder();
        for (int n = 1; n <= 120; n++) {
            rows.append((char) (deep.placeOf(n) >> 8)).append((char) (deep.placeOf(n) & 255));
        }
        deep.raw("9 0 obj << /Type /XRef /Size 121 /W [ 0 2 0 ] /Index [ 1 120 ] /Root 1 0 R /Length 240 >> stream\n"
                + rows + "\nendstream endobj ");
        Checks.refuses("a long row of lengths", deep.end(begin), 6, last);
    }

    private static void objectsWrong() {
        Files far = Files.empty().at(3, 9000);
        String file = far.table("/Root 1 0 R");
        Checks.refuses("beyond the file", file, 6, file.length());
        Files other = Files.empty();
        int place = other.placeOf(2);
        Checks.refuses("another number", other.at(3, place).table("/Root 1 0 R"), 6, place);
        Checks.refuses("another generation", Files.empty().raw("3 1 obj null endobj ").at(3, PLACE).table("/Root 1 0 R"), 6, PLACE);
        Checks.refuses("a sign", Files.empty().raw("+3 0 obj null endobj ").at(3, PLACE).table("/Root 1 0 R"), 6, PLACE);
        Checks.refuses("no obj", Files.empty().raw("3 0 obi null endobj ").at(3, PLACE).table("/Root 1 0 R"), 6, PLACE);
        Checks.refuses("no endobj", Files.empty().raw("3 0 obj null endob ").at(3, PLACE).table("/Root 1 0 R"), 6, PLACE);
        Checks.refuses("two objects", Files.empty().raw("3 0 obj null null endobj ").at(3, PLACE).table("/Root 1 0 R"), 6, PLACE);
        Checks.loads("white ahead", Files.empty().raw("  %x\n3 0 obj null endobj ").at(3, PLACE).table("/Root 1 0 R"), 0);
        Checks.loads("zeros ahead", Files.empty().raw("003 00%\nobj/A endobj ").at(3, PLACE).table("/Root 1 0 R"), 0);
        Checks.refuses("the white's place counts", Files.empty().raw("  %x\n3 0 obj null ").at(3, PLACE).table("/Root 1 0 R"), 6, PLACE);
    }

    private static void filters() {
        String text = "some bytes some bytes \0\u00ff";
        decodes("hex", "/Filter /ASCIIHexDecode", Files.hex(text), text);
        decodes("hex with white", "/Filter /ASCIIHexDecode", " 6 1\n62\r\t> \0", "ab");
        decodes("half a byte", "/Filter /ASCIIHexDecode", "617>", "ap");
        decodes("an array of one", "/Filter [ /ASCIIHexDecode ]", Files.hex(text), text);
        decodes("an array of none", "/Filter [ ]", text, text);
        decodes("flate", "/Filter /FlateDecode", Files.deflated(text), text);
        decodes("hex, flate", "/Filter [ /ASCIIHexDecode /FlateDecode ]", Files.hex(Files.deflated(text)), text);
        decodes("flate, hex, flate", "/Filter [ /FlateDecode /ASCIIHexDecode /FlateDecode ]",
                Files.deflated(Files.hex(Files.deflated(text))), text);
        decodes("parms null", "/Filter /FlateDecode /DecodeParms null", Files.deflated(text), text);
        decodes("parms of one", "/Filter [ /FlateDecode ] /DecodeParms << /Predictor 1 /Columns 999 >>", Files.deflated(text), text);
        decodes("parms of two", "/Filter [ /ASCIIHexDecode /FlateDecode ] /DecodeParms [ null << /Colors 5 >> ]",
                Files.hex(Files.deflated(text)), text);
        decodes("parms of hex", "/Filter /ASCIIHexDecode /DecodeParms << /Predictor 2 >>", Files.hex(text), text);
        decodes("parms without a filter", "/DecodeParms 5", text, text);
    }

    private static void filtersWrong() {
        String flate = Files.deflated("x");
        wrong("Filter null", stream("/Filter null", "x"), 7);
        wrong("Filter a string", stream("/Filter (x)", "x"), 7);
        wrong("Filter a reference", stream("/Filter 1 0 R", "x"), 7);
        wrong("Filter of another name", stream("/Filter /LZWDecode", "x"), 7);
        wrong("four filters", stream("/Filter [ /FlateDecode /FlateDecode /FlateDecode /FlateDecode ]", "x"), 7);
        wrong("Filter of no names", stream("/Filter [ 1 ]", "x"), 7);
        wrong("one of two is another", stream("/Filter [ /ASCIIHexDecode /Crypt ]", "zz"), 7);
        wrong("parms a whole", stream("/Filter /FlateDecode /DecodeParms 5", flate), 7);
        wrong("parms a reference", stream("/Filter /FlateDecode /DecodeParms 1 0 R", flate), 7);
        wrong("parms a dict for two", stream("/Filter [ /FlateDecode /FlateDecode ] /DecodeParms << >>", flate), 7);
        wrong("parms too few", stream("/Filter [ /FlateDecode /FlateDecode ] /DecodeParms [ null ]", flate), 7);
        wrong("parms of none", stream("/Filter [ ] /DecodeParms << >>", flate), 7);
        String dict = "/Filter /FlateDecode /DecodeParms << ";
        wrong("Predictor 2", stream(dict + "/Predictor 2 >>", flate), 7);
        wrong("Predictor 9", stream(dict + "/Predictor 9 >>", flate), 7);
        wrong("Predictor 16", stream(dict + "/Predictor 16 >>", flate), 7);
        wrong("Predictor null", stream(dict + "/Predictor null >>", flate), 7);
        wrong("Predictor a real", stream(dict + "/Predictor 1.0 >>", flate), 7);
        wrong("Columns 0", stream(dict + "/Predictor 12 /Columns 0 >>", flate), 7);
        wrong("Columns 201", stream(dict + "/Predictor 12 /Columns 201 >>", flate), 7);
        wrong("Colors 2", stream(dict + "/Predictor 12 /Colors 2 >>", flate), 7);
        wrong("BitsPerComponent 1", stream(dict + "/Predictor 12 /BitsPerComponent 1 >>", flate), 7);
        wrong("7 is behind endobj", "<< /Length 1 /Filter null >> stream\nx endstream endob", 6);
    }

    private static void hexWrong() {
        wrong("no end", stream("/Filter /ASCIIHexDecode", "6162"), 8);
        wrong("another byte", stream("/Filter /ASCIIHexDecode", "6g>"), 8);
        wrong("a remark", stream("/Filter /ASCIIHexDecode", "61%x\n>"), 8);
        wrong("more behind", stream("/Filter /ASCIIHexDecode", "61>61"), 8);
        wrong("a remark behind", stream("/Filter /ASCIIHexDecode", "61>%"), 8);
        wrong("two ends", stream("/Filter /ASCIIHexDecode", "61>>"), 8);
    }

    private static void flate() {
        StringBuilder mixed = new StringBuilder();
        for (int i = 0; i < 7000; i++) {
            mixed.append((char) (i % 7 < 3 ? 'a' + i * i % 5 : i * 31 / 7 % 200));
        }
        String[] texts = {"", "a", "abcabcabcabc", Files.repeat("a", 8000), Files.noise(3000, 5), mixed.toString()};
        int[] strategies = {Deflater.DEFAULT_STRATEGY, Deflater.FILTERED, Deflater.HUFFMAN_ONLY};
        for (String text : texts) {
            for (int strategy : strategies) {
                for (int level = 0; level <= 9; level += 3) {
                    String data = Files.deflated(text, level, strategy);
                    if (data.length() < 7000) {
                        decodes("flate " + text.length() + " " + strategy + " " + level, "/Filter /FlateDecode", data, text);
                    }
                }
            }
        }
        // A fixed block: one literal "a", then a row of 258 at distance 1; made by hand.
        Bits fixed = new Bits().add(1, 1).add(1, 2).code(48 + 'a', 8).code(197, 8).code(0, 5).code(0, 7);
        decodes("a row by hand", "/Filter /FlateDecode", fixed.zlib(Files.repeat("a", 259)), Files.repeat("a", 259));
        Bits longer = new Bits().add(1, 1).add(1, 2).code(48 + 'a', 8).code(196, 8).add(31, 5).code(0, 5).code(0, 7);
        decodes("258 by the code before", "/Filter /FlateDecode", longer.zlib(Files.repeat("a", 259)), Files.repeat("a", 259));
        Bits stored = new Bits().add(0, 1).add(0, 2).align().add(2, 16).add(65533, 16).add('h', 8).add('i', 8)
                .add(0, 1).add(1, 2).code(0, 7).add(1, 1).add(0, 2).align().add(0, 16).add(65535, 16);
        decodes("three blocks", "/Filter /FlateDecode", stored.zlib("hi"), "hi");
    }

    /** Rows of all lengths, at distances of all kinds, and codes of many sizes, coded by the library. */
    private static void flateTables() {
        for (int from = 3; from <= 258; from += 15) {
            StringBuilder text = new StringBuilder();
            for (int length = from; length < from + 15 && length <= 258; length++) {
                String noise = Files.noise(length, length);
                text.append(noise).append((char) (length & 255)).append(noise).append("..");
            }
            if (text.length() <= 8000) {
                decodes("lengths from " + from, "/Filter /FlateDecode", Files.deflated(text.toString()), text.toString());
            }
        }
        for (int distance = 10; distance < 7900; distance = distance * 9 / 8 + 1) {
            Bits bits = new Bits().add(1, 1).add(1, 2);
            String noise = Files.noise(distance, 17);
            for (int i = 0; i < distance; i++) {
                int c = noise.charAt(i);
                bits.code(c < 144 ? 48 + c : 256 + c, c < 144 ? 8 : 9);
            }
            int kind = 2;
            int base = 3;
            int more = 0;
            while (kind < 29 && distance >= base + (1 << more)) {
                base += 1 << more;
                kind++;
                more = Math.max(0, kind / 2 - 1);
            }
            bits.code(1, 7).code(kind, 5).add(distance - base, more).code(0, 7);
            String data = bits.zlib(noise + noise.substring(0, 3));
            if (data.length() < 7400) {
                decodes("distance " + distance, "/Filter /FlateDecode", data, noise + noise.substring(0, 3));
            }
        }
        StringBuilder skewed = new StringBuilder();
        int many = 1;
        int before = 1;
        for (int c = 0; skewed.length() + many < 7500; c++) {
            skewed.append(Files.repeat("" + (char) (c * 7 + 3), many));
            int sum = many + before;
            before = many;
            many = sum;
        }
        StringBuilder mixed = new StringBuilder();
        for (int i = 0; i < skewed.length(); i++) {
            mixed.append(skewed.charAt((int) ((i * 4099L) % skewed.length())));
        }
        for (int level = 1; level <= 9; level += 4) {
            decodes("skewed", "/Filter /FlateDecode", Files.deflated(mixed.toString(), level, Deflater.HUFFMAN_ONLY), mixed.toString());
            decodes("skewed rows", "/Filter /FlateDecode", Files.deflated(mixed.toString(), level, Deflater.DEFAULT_STRATEGY), mixed.toString());
        }
    }

    private static void flateBad(String what, String data) {
        wrong(what, stream("/Filter /FlateDecode", data), 8);
    }

    private static void flateWrong() {
        String good = Files.deflated("abcabcabcabcabc");
        flateBad("nothing", "");
        flateBad("one byte", "x");
        flateBad("method 7", "\u0077" + good.substring(1));
        flateBad("window 8", "\u0088\u001c" + good.substring(2));
        flateBad("check", "x\u009d" + good.substring(2));
        flateBad("dictionary", "x\u00bb" + good.substring(2));
        flateBad("adler", good.substring(0, good.length() - 1) + "!");
        flateBad("a byte behind", good + "\0");
        flateBad("a byte lacking", good.substring(0, good.length() - 1));
        flateBad("block of kind 3", new Bits().add(1, 1).add(3, 2).add(0, 20).zlib(""));
        flateBad("stored check", new Bits().add(1, 1).add(0, 2).align().add(1, 16).add(65533, 16).add('a', 8).zlib("a"));
        flateBad("distance beyond", new Bits().add(1, 1).add(1, 2).code(48 + 'a', 8).code(1, 7).code(1, 5).code(0, 7).zlib("aaaa"));
        flateBad("code 286", new Bits().add(1, 1).add(1, 2).code(48 + 'a', 8).code(198, 8).code(0, 5).code(0, 7).zlib("aaaa"));
        flateBad("distance code 30", new Bits().add(1, 1).add(1, 2).code(48 + 'a', 8).code(1, 7).code(30, 5).code(0, 7).zlib("aaaa"));
        flateBad("8001 bytes", Files.deflated(Files.repeat("a", 8001)));
        decodes("no distance codes", "/Filter /FlateDecode", dynamic(new int[] {}, false).zlib("a"), "a");
        decodes("one distance code", "/Filter /FlateDecode", dynamic(new int[] {1}, false).zlib("a"), "a");
        flateBad("one distance code of two bits", dynamic(new int[] {2}, false).zlib("a"));
        flateBad("three distance codes of one bit", dynamic(new int[] {1, 1, 1}, false).zlib("a"));
        flateBad("no code 256", dynamic(new int[] {1}, true).zlib("a"));
    }

    /** A dynamic block of one "a"; the codes 97, 256 (or 257 instead) have one bit each. */
    private static Bits dynamic(int[] far, boolean without256) {
        int[] sizes = new int[258 + Math.max(1, far.length)];
        sizes['a'] = 1;
        sizes[without256 ? 257 : 256] = 1;
        System.arraycopy(far, 0, sizes, 258, far.length);
        // The sizes are told by codes of two bits for 0, 1, 2 and 18.
        int[] order = {16, 17, 18, 0, 8, 7, 9, 6, 10, 5, 11, 4, 12, 3, 13, 2, 14, 1, 15};
        Bits bits = new Bits().add(1, 1).add(2, 2).add(1, 5).add(Math.max(1, far.length) - 1, 5).add(14, 4);
        for (int i = 0; i < 18; i++) {
            bits.add(order[i] <= 2 || order[i] == 18 ? 2 : 0, 3);
        }
        bits.code(3, 2).add(97 - 11, 7).code(1, 2).code(3, 2).add(127, 7).code(3, 2).add(9, 7);
        for (int i = 256; i < sizes.length; i++) {
            bits.code(sizes[i], 2);
        }
        return bits.code(0, 1).code(1, 1);
    }

    private static void predictors() {
        String head = "/Filter /FlateDecode /DecodeParms << /Predictor 15 /Columns 3 >>";
        String rows = "\0abc" + "\1\1\1\1" + "\2\1\1\1" + "\3\2\2\2" + "\4\1\2\3";
        // Left adds 1 each; up adds 1 each; average: (0+2)/2+2.. ; Paeth as published.
        String want = "abc" + "\1\2\3" + "\2\3\4" + "\3\5\6" + "\4\7\n";
        decodes("predictor rows", head, Files.deflated(rows), want);
        decodes("no rows", head, Files.deflated(""), "");
        decodes("columns 1", "/Filter /FlateDecode /DecodeParms << /Predictor 10 >>", Files.deflated("\0a\2\1"), "ab");
        decodes("all of them", "/Filter [ /FlateDecode ] /DecodeParms [ << /Predictor 12 /Columns 200 /Colors 1"
                + " /BitsPerComponent 8 >> ]", Files.deflated("\1" + Files.repeat("\1", 200)), counting(200));
        String paeth = "\0\12\24\36" + "\4\1\1\1";
        decodes("Paeth", head, Files.deflated(paeth), "\12\24\36" + "\13\25\37");
        String upLeft = "\0\144\12\12" + "\0\12\144\12" + "\4\0\0\0";
        decodes("Paeth's choices", head, Files.deflated(upLeft), "\144\12\12" + "\12\144\12" + "\12\144\12");
    }

    /** Rows of all kinds, taken back by the published words: Paeth's guess is the nearest of three. */
    private static void randomPredictors() {
        for (int columns = 1; columns <= 40; columns += 13) {
            String noise = Files.noise(60 * (columns + 1), columns);
            StringBuilder rows = new StringBuilder();
            StringBuilder want = new StringBuilder();
            for (int row = 0; row < 60; row++) {
                int kind = row % 5;
                rows.append((char) kind);
                for (int i = 0; i < columns; i++) {
                    int value = noise.charAt(row * (columns + 1) + i);
                    int at = want.length();
                    int left = i > 0 ? want.charAt(at - 1) : 0;
                    int above = row > 0 ? want.charAt(at - columns) : 0;
                    int corner = i > 0 && row > 0 ? want.charAt(at - columns - 1) : 0;
                    int[] guesses = {0, left, above, (left + above) / 2, left};
                    for (int guess : new int[] {above, corner}) {
                        int far = Math.abs(left + above - corner - guess);
                        if (far < Math.abs(left + above - corner - guesses[4])) {
                            guesses[4] = guess;
                        }
                    }
                    rows.append((char) (value - guesses[kind] & 255));
                    want.append((char) value);
                }
            }
            decodes("rows of " + columns, "/Filter /FlateDecode /DecodeParms << /Predictor 15 /Columns " + columns + " >>",
                    Files.deflated(rows.toString()), want.toString());
        }
    }

    private static String counting(int many) {
        StringBuilder all = new StringBuilder();
        for (int i = 1; i <= many; i++) {
            all.append((char) (i & 255));
        }
        return all.toString();
    }

    private static void predictorsWrong() {
        String head = "/Filter /FlateDecode /DecodeParms << /Predictor 10 /Columns 3 >>";
        wrong("part of a row", stream(head, Files.deflated("\0abc\0a")), 8);
        wrong("kind 5", stream(head, Files.deflated("\5abc")), 8);
    }

    private static void manyBytes() {
        Files files = Files.empty();
        String zeros = Files.deflated(Files.repeat("\0", 8000));
        for (int n = 3; n < 8; n++) {
            files.stream(n, "/Filter /FlateDecode", zeros);
        }
        Checks.loads("just 40000", files.stream(8, "", "").table("/Root 1 0 R"), 0);
        files = Files.empty();
        for (int n = 3; n < 8; n++) {
            files.stream(n, "/Filter /FlateDecode", zeros);
        }
        files.stream(8, "", "x");
        int place = files.placeOf(8);
        Checks.refuses("40001", files.table("/Root 1 0 R"), 8, place);
    }

    /** Objects 4 and 5 are in the stream 3; the newest section is a row stream. */
    private static String inside(String entries, String data, int holder, int index) {
        Files files = Files.empty().stream(3, entries, data);
        return insideRows(files, holder, index);
    }

    private static String insideRows(Files files, int holder, int index) {
        int begin = files.length();
        StringBuilder rows = new StringBuilder();
        for (int n = 1; n <= 3; n++) {
            rows.append('\1').append((char) (files.placeOf(n) >> 8)).append((char) (files.placeOf(n) & 255)).append('\0');
        }
        rows.append('\2').append('\0').append((char) holder).append((char) index);
        files.raw("9 0 obj << /Type /XRef /Size 5 /W [ 1 2 1 ] /Index [ 1 4 ] /Root 1 0 R /Length 16 >> stream\n" + rows
                + "\nendstream endobj ");
        return files.end(begin);
    }

    private static void objectStreams() {
        House x = Checks.loads("inside", inside("/Type /ObjStm /N 2 /First 8 ", "7 0 4 3 [] (in)", 3, 1), 0);
        Checks.due("inside: kind", x.go(4), 5);
        Checks.due("inside: letters", Files.letters(x, false), "in");
        Checks.due("inside: objects", x.objects(), 4);
        House y = Checks.loads("inside flate", inside("/Type /ObjStm /N 1 /First 6 /Filter /FlateDecode",
                Files.deflated("4%x\n 0 1 0 R"), 3, 0), 0);
        Checks.due("a reference inside", y.go(4), 8);
        Checks.due("no stream inside", Checks.loads("dict", inside("/Type /ObjStm /N 1 /First 4", "4 0 << /Length 1 >> stream", 3, 0), 0).go(4), 7);
    }

    private static void insideWrong(String what, String entries, String data, int index, int fault, int place) {
        Checks.refuses(what, inside(entries, data, 3, index), fault, place);
    }

    private static void objectStreamsWrong() {
        String good = "/Type /ObjStm /N 2 /First 8 ";
        String data = "7 0 4 3 [] (in)";
        insideWrong("another Type", good.replace("Stm", "StM"), data, 1, 6, PLACE);
        insideWrong("no N", good.replace("/N", "/M"), data, 1, 6, PLACE);
        insideWrong("N 201", good.replace("/N 2", "/N 201"), data, 1, 6, PLACE);
        insideWrong("First below 0", good.replace("First 8", "First -8"), data, 1, 6, PLACE);
        insideWrong("Type a reference", good.replace("/ObjStm", "1 0 R"), data, 1, 6, PLACE);
        insideWrong("too few pairs", good.replace("/N 2", "/N 3"), data, 1, 6, PLACE);
        insideWrong("a sign", good, "7 0 4 +3[] (in)", 1, 6, PLACE);
        insideWrong("a wrong pair elsewhere", good, "7 x 4 3 [] (in)", 1, 6, PLACE);
        insideWrong("another number", good, data, 0, 6, PLACE);
        insideWrong("another index", good, data, 2, 6, PLACE);
        insideWrong("a token", good, "7 0 4 3 [] in", 1, 4, 11);
        insideWrong("a limit", good, "7 0 4 3 [] 0 0 R ", 1, 5, 11);
        insideWrong("the end", good, "7 0 4 7 []  ", 1, 4, 12);
        insideWrong("beyond the end", good, "7 0 4 99[] ", 1, 4, 11);
        String file = inside(good, data, 9, 1);
        Checks.refuses("in none", file, 6, file.length());
        Checks.refuses("in a dict", inside(good, data, 1, 1), 6, Files.empty().placeOf(1));
        String inItself = inside(good, data, 4, 1);
        Checks.refuses("in one inside", inItself, 6, inItself.length());
    }

    /** 60000 bytes of texts: the same string of 2000 bytes is read again and again; the last one is of each kind. */
    private static void manyTexts() {
        // What is ahead of the last text, and so many bytes of it; behind that its own.
        lastText("(", "", ")", 2000);
        lastText("<", "", "78>", 1);
        lastText("/", "", " ", 60);
        lastText("<< /", "", " 1 >>", 60);
        lastText("<< /Ab ", "/", " >>", 59);
        lastText("[ (abc) [ 5 ", "(", ") ] ]", 900);
    }

    private static void lastText(String ahead, String begin, String behind, int most) {
        for (int more = 0; more <= 1; more++) {
            Files files = Files.empty();
            // Names: of objects 1 and 2, the stream 3, the row stream; they leave so much for strings.
            int names = 4 + 7 + 5 + 4 + 5 + 4 + 5 + 4 + 6 + 1 + 5 + 6 + 6 + 11 + 4 + 4 + 1 + 4 + 5 + 4 + 6;
            int known = ahead.startsWith("<< /Ab") ? 2 : ahead.startsWith("[ (abc)") ? 3 : 0;
            int rest = 60000 - names - 28 * 2000 + more - known;
            int last = Math.min(most, rest - 2000);
            int first = rest - last;
            int place = 2010 + first + 10;
            StringBuilder head = new StringBuilder();
            for (int n = 4; n < 34; n++) {
                head.append(n).append(n == 32 ? " 2010 " : n == 33 ? " " + place + " " : " 0 ");
            }
            String data = head + "(" + Files.repeat("x", 2000) + ")" + Files.repeat(" ", 8) + two(first);
            data += Files.repeat(" ", head.length() + place - data.length()) + ahead + begin
                    + (behind.startsWith("78") ? "" : Files.repeat("y", last)) + behind;
            files.stream(3, "/Type /ObjStm /N 30 /First " + head.length() + " /Filter /FlateDecode", Files.deflated(data));
            int at = files.length();
            StringBuilder rows = new StringBuilder();
            for (int n = 1; n <= 33; n++) {
                int where = n <= 3 ? files.placeOf(n) : 3;
                rows.append((char) (n <= 3 ? 1 : 2)).append((char) (where >> 8)).append((char) (where & 255))
                        .append((char) Math.max(0, n - 4));
            }
            files.raw("99 0 obj << /Type /XRef /Size 34 /W [ 1 2 1 ] /Index [ 1 33 ] /Root 1 0 R /Length 132 >> stream\n"
                    + rows + "\nendstream endobj ");
            if (more == 0) {
                Checks.due("60000 bytes: objects", Checks.loads("60000 bytes", files.end(at), 0).objects(), 33);
            } else {
                int slash = ahead.endsWith("/") || ahead.endsWith("(") || ahead.endsWith("<") ? 1 : 0;
                Checks.refuses("60001 bytes " + ahead, files.end(at), 5, head.length() + place + ahead.length() - slash);
            }
        }
    }

    /** Two strings of so many bytes together, as an array. */
    private static String two(int bytes) {
        return "[(" + Files.repeat("y", bytes / 2) + ")(" + Files.repeat("z", bytes - bytes / 2) + ")]";
    }

    /** Where an entry says that object 3 stands; object 3 stands at PLACE. */
    private static void placesOfObjects() {
        String body = "  %x\n3 0 obj null endobj ";
        for (int more : new int[] {0, 1, 2, 4, 5}) {
            Checks.loads("behind white and " + more, Files.empty().raw(body).at(3, PLACE + more).table("/Root 1 0 R"), 0);
        }
        Checks.refuses("within its remark", Files.empty().raw(body).at(3, PLACE + 3).table("/Root 1 0 R"), 6, PLACE + 3);
        Checks.refuses("behind its number", Files.empty().raw(body).at(3, PLACE + 6).table("/Root 1 0 R"), 6, PLACE + 6);
        Checks.refuses("within the remark", Files.empty().raw("%x3 0 obj null endobj\n").at(3, PLACE + 1).table("/Root 1 0 R"), 6, PLACE + 1);
        Checks.loads("behind the remark's sign", Files.empty().raw("%3 0 obj null endobj\n").at(3, PLACE + 1).table("/Root 1 0 R"), 0);
        int length = Files.empty().at(3, 0).table("/Root 1 0 R").length();
        for (int place : new int[] {0, length - 1, length, length + 1, 8000, 1999999999}) {
            Checks.refuses("at " + place, Files.empty().at(3, place).table("/Root 1 0 R"), 6, Math.min(place, length));
        }
    }

    private static void headsOfObjects() {
        for (String head : new String[] {"3 0 obj", "003 000 obj", "3%x\n0\0obj", "\f3\t0\robj%"}) {
            Checks.loads("head " + head, Files.empty().raw(head + "\nnull endobj ").at(3, PLACE).table("/Root 1 0 R"), 0);
        }
        for (String head : new String[] {"+3 0 obj", "-3 0 obj", "3 +0 obj", "3 -0 obj", "3.0 0 obj", "3 0.0 obj", "4 0 obj", "3 1 obj",
            "3 0 objx", "3 0 Obj", "3 obj", "3 0", "99999999999 0 obj", "3 99999999999 obj", "(3) 0 obj", "/3 0 obj", "3 0 R", "] 3 0 obj", "x"}) {
            Checks.refuses("head " + head, Files.empty().raw(head + "\nnull endobj ").at(3, PLACE).table("/Root 1 0 R"), 6, PLACE);
        }
        Files greatest = Files.empty().raw("3 2147483647 obj null endobj ");
        int begun = greatest.length();
        StringBuilder rows = new StringBuilder();
        for (int n = 1; n <= 3; n++) {
            int place = n == 3 ? PLACE : greatest.placeOf(n);
            rows.append((char) (place >> 8)).append((char) (place & 255)).append(n == 3 ? "\u007f\u00ff\u00ff\u00ff" : "\0\0\0\0");
        }
        greatest.raw("9 0 obj << /Type /XRef /Size 4 /W [ 0 2 4 ] /Index [ 1 3 ] /Root 1 0 R /Length 18 >> stream\n" + rows + "\nendstream endobj ");
        Checks.due("generation 2147483647", Checks.loads("generation 2147483647", greatest.end(begun), 0).go(3), 0);
        for (String tail : new String[] {"endobj", "%\nendobj(", "\0endobj<"}) {
            Checks.loads("tail " + tail, Files.empty().raw("3 0 obj null " + tail + "\n").at(3, PLACE).table("/Root 1 0 R"), 0);
        }
        for (String tail : new String[] {"endobjx", "Endobj", "1 endobj", ") endobj", "stream\nendstream endobj", "99999999999 endobj", "/endobj"}) {
            Checks.refuses("tail " + tail, Files.empty().raw("3 0 obj null " + tail + "\n").at(3, PLACE).table("/Root 1 0 R"), 6, PLACE);
        }
        for (String generation : new String[] {"00000", "00001", "65535", "65536", "99999"}) {
            Files files = Files.empty().raw("3 " + generation + " obj null endobj ");
            int begin = files.length();
            files.raw(String.format("xref\n1 3\n%010d 00000 n \n%010d 00000 n \n%010d " + generation
                    + " n \ntrailer << /Size 4 /Root 1 0 R >>\n", files.placeOf(1), files.placeOf(2), PLACE));
            Checks.due("generation " + generation, Checks.loads("generation " + generation, files.end(begin), 0).go(3), 0);
            Checks.refuses("another than " + generation, files.end(begin).replace("3 " + generation + " obj", "3 00007 obj"), 6, PLACE);
        }
    }

    private static void byRisingNumbers() {
        order("the least number's fault", ")", "[", "x", 4, 3, 8);
        order("the length is read first", "<< /Length 5 0 R >> stream\nabc\nendstreams", ")", "x", 4, 5, 8);
        order("then the stream's fault", "<< /Length 5 0 R >> stream\nabc\nendstreams", ")", "3", 6, 3, 0);
        order("the line end goes ahead", "<< /Length 5 0 R >> stream\rabc\nendstream", ")", "x", 6, 3, 0);
        order("7 ahead of the next object", "<< /Length 5 0 R /Filter 1 >> stream\nabc\nendstream", ")", "3", 7, 3, 0);
        order("8 ahead of the next object", "<< /Length 5 0 R /Filter /FlateDecode >> stream\nabc\nendstream", ")", "3", 8, 3, 0);
        order("the next object", "<< /Length 5 0 R >> stream\nabc\nendstream", ")", "3", 4, 4, 8);
    }

    /** Objects 3, 4 and 5, written the other way round; the fault is so far behind the beginning of one of them. */
    private static void order(String what, String three, String four, String five, int fault, int of, int behind) {
        Files files = Files.empty().object(5, five).object(4, four).object(3, three);
        int place = files.placeOf(of) + behind;
        Checks.refuses(what, files.table("/Root 1 0 R"), fault, place);
    }

    private static void bodies() {
        for (String line : new String[] {"\n", "\r\n"}) {
            House x = Checks.loads("a line end", file("<< /Length 2 >>%\nstream" + line + "\r\nendstream"), 0);
            Checks.due("the bytes", Files.data(x, 3), "\r\n");
        }
        for (String line : new String[] {"\r", " \n", "\t\n", "", "\0\n", "%\n", "\f"}) {
            wrong("another line end", "<< /Length 2 >>stream" + line + "abendstream", 6);
        }
        for (String tail : new String[] {"endstream", "\nendstream", "\r\nendstream", "\rendstream", "\n\n \0\f%x\nendstream", " endstream"}) {
            House x = Checks.loads("tail " + tail, file("<< /Length 2 >> stream\nab" + tail), 0);
            Checks.due("tail " + tail, x.size(3), 2);
        }
        for (String tail : new String[] {"", "cendstream", "endstreamx", "\nEndstream", "\nendstream endstream", ") endstream", "%endstream"}) {
            wrong("tail " + tail, "<< /Length 2 >> stream\nab" + tail, 6);
        }
        for (String length : new String[] {"1", "3", "-1", "-2147483648", "2147483647", "7999", "2.0", "(2)", "/A", "null", "[ 2 ]", "true"}) {
            wrong("Length " + length, "<< /Length " + length + " >> stream\nabendstream", 6);
        }
        wrong("no Length of nothing", "<< >> stream\nendstream", 6);
        for (String length : new String[] {"null", "false", "true", "0.0", "()", "/", "[ ]", "<< >>"}) {
            wrong("Length " + length + " of nothing", "<< /Length " + length + " >> stream\nendstream", 6);
            wrong("Length " + length + " of a byte", "<< /Length " + length + " >> stream\nxendstream", 6);
            length("of an object " + length, "5 0 R", length, 6, false);
        }
        House none = Checks.loads("Length 0", file("<< /Length 0 >> stream\nendstream"), 0);
        Checks.due("Length 0: size", none.size(3), 0);
        Checks.due("Length 0: data", none.data(3, 0), -1);
        wrong("the word of another", "<< /Length 2 >> streams\nabendstream", 6);
        Checks.due("size of an array", Checks.loads("an array", file("[ ]"), 0).size(3), -1);
    }

    /** An object whose length is told by one in an object stream, or by one that is free. */
    private static void lengthsElsewhere() {
        String dict = "<< /Length 4 0 R >> stream\nabc\nendstream";
        Files inside = Files.empty().object(5, dict).stream(3, "/Type /ObjStm /N 1 /First 4", "4 0 3 ");
        int place = inside.placeOf(5);
        int begin = inside.length();
        StringBuilder rows = new StringBuilder();
        for (int n : new int[] {1, 2, 3}) {
            rows.append('\1').append((char) (inside.placeOf(n) >> 8)).append((char) (inside.placeOf(n) & 255)).append('\0');
        }
        rows.append("\2\0\3\0").append('\1').append((char) (place >> 8)).append((char) (place & 255)).append('\0');
        inside.raw("9 0 obj << /Type /XRef /Size 6 /W [ 1 2 1 ] /Index [ 1 5 ] /Root 1 0 R /Length 20 >> stream\n" + rows
                + "\nendstream endobj ");
        Checks.refuses("a length in an object stream", inside.end(begin), 6, place);
        wrong("a length that is free", dict, 6);
        wrong("a length of number 199", dict.replace("4 0 R", "199 0 R"), 6);
        Files two = Files.empty().object(3, "<< /Length 6 0 R >> stream\nabc\nendstream").object(4, "<< /Length 6 0 R >> stream\ndef\nendstream")
                .object(6, "3");
        House x = Checks.loads("one length of two", two.table("/Root 1 0 R"), 0);
        Checks.due("the second's bytes", Files.data(x, 4), "def");
        Files chain = Files.empty().object(3, "<< /Length 4 0 R >> stream\n\nendstream").object(4, "<< /Length 5 0 R >> stream\nabc\nendstream")
                .object(5, "3");
        int chained = chain.placeOf(3);
        Checks.refuses("a length that is a stream", chain.table("/Root 1 0 R"), 6, chained);
        Files later = Files.empty().object(3, "3").object(4, "<< /Length 3 1 R >> stream\nabc\nendstream");
        int other = later.placeOf(4);
        Checks.refuses("a length read already, of another generation", later.table("/Root 1 0 R"), 6, other);
    }

    /** What waited when a file was refused has no part in the next one; nor have its objects. */
    private static void afterARefusal() {
        House x = new House();
        String waits = Files.empty().object(3, "<< /Length 4 0 R >> stream\nabc\nendstream").object(4, "x").table("/Root 1 0 R");
        String good = Files.empty().object(3, "[" + Files.repeat("1 ", 3000) + "]").table("/Root 1 0 R");
        for (int i = 0; i < 12; i++) {
            Checks.due("a stream waits", Files.load(x, waits), -104);
            Checks.due("a good file", Files.load(x, good), 0);
            Checks.due("objects", x.objects(), 3);
            x.go(3);
            Checks.due("parts", x.here(2), 3000);
        }
    }

    /** A house reads file after file; the bytes of texts, of streams, and the objects count anew each time. */
    private static void readAgain() {
        StringBuilder pairs = new StringBuilder();
        for (int n = 4; n < 32; n++) {
            pairs.append(n).append(" 0 ");
        }
        String string = "(" + Files.repeat("x", 2000) + ")";
        Files files = Files.empty().stream(3, "/Type /ObjStm /N 28 /First " + pairs.length() + " /Filter /FlateDecode", Files.deflated(pairs + string));
        files.stream(32, "/Filter /FlateDecode", Files.deflated(Files.repeat("a", 8000)));
        int begin = files.length();
        StringBuilder rows = new StringBuilder();
        for (int n = 1; n <= 32; n++) {
            boolean inside = n > 3 && n < 32;
            int place = inside ? 3 : files.placeOf(n);
            rows.append((char) (inside ? 2 : 1)).append((char) (place >> 8)).append((char) (place & 255)).append((char) (inside ? n - 4 : 0));
        }
        files.raw("99 0 obj << /Type /XRef /Size 33 /W [ 1 2 1 ] /Index [ 1 32 ] /Root 1 0 R /Length 128 >> stream\n" + rows + "\nendstream endobj ");
        String file = files.end(begin);
        House x = new House();
        for (int i = 0; i < 12; i++) {
            Checks.due("load " + i, Files.load(x, file), 0);
            Checks.due("objects " + i, x.objects(), 32);
            x.go(31);
            Checks.due("bytes of the last string " + i, x.here(2), 2000);
            Checks.due("bytes of the last stream " + i, x.size(32), 8000);
        }
    }

    /** An object that is read ahead of its turn is read once: its bytes, and its objects, count once. */
    private static void readOnce() {
        String full = Files.deflated("3 0 /in" + Files.repeat(" ", 7993));
        Files files = Files.empty();
        for (int n = 4; n < 8; n++) {
            files.stream(n, "/Filter /FlateDecode", Files.deflated(Files.repeat("a", 8000)));
        }
        files.stream(8, "/Type /ObjStm /N 1 /First 4 /Filter /FlateDecode", full);
        int begin = files.length();
        StringBuilder rows = new StringBuilder();
        for (int n = 1; n <= 8; n++) {
            int place = n == 3 ? 8 : files.placeOf(n);
            rows.append((char) (n == 3 ? 2 : 1)).append((char) (place >> 8)).append((char) (place & 255)).append('\0');
        }
        files.raw("9 0 obj << /Type /XRef /Size 9 /W [ 1 2 1 ] /Index [ 1 8 ] /Root 1 0 R /Length 32 >> stream\n" + rows + "\nendstream endobj ");
        House x = Checks.loads("a holder read once", files.end(begin), 0);
        Checks.due("its bytes", x.size(8), 8000);
        Checks.due("what is in it", x.go(3), 4);
    }

    private static void parms(String parms, boolean good, boolean predicts) {
        String text = "\0a\0b\0c";
        String body = stream("/Filter /FlateDecode /DecodeParms << " + parms + " >>", Files.deflated(text));
        if (good) {
            House x = Checks.loads("parms " + parms, file(body), 0);
            Checks.due("parms " + parms, Files.data(x, 3), predicts ? "abc" : text);
        } else {
            wrong("parms " + parms, body, 7);
        }
    }

    private static void parmsAtTheirEdges() {
        for (int predictor = -16; predictor <= 32; predictor++) {
            parms("/Predictor " + predictor, predictor == 1 || predictor >= 10 && predictor <= 15, predictor >= 10);
        }
        for (String other : new String[] {"10.0", "(10)", "/A", "null", "true", "[ 10 ]", "1 0 R"}) {
            parms("/Predictor " + other, false, false);
            parms("/Predictor 10 /Columns " + other, false, false);
            parms("/Predictor 10 /Colors " + other, false, false);
            parms("/Predictor 10 /BitsPerComponent " + other, false, false);
            parms("/Predictor 1 /Columns " + other + " /Colors " + other + " /BitsPerComponent " + other, true, false);
            parms("/Columns " + other + " /Colors " + other + " /BitsPerComponent " + other, true, false);
        }
        for (String wrong : new String[] {"/Columns 0", "/Columns -1", "/Columns 201", "/Columns 2147483647", "/Colors 0", "/Colors 2", "/Colors -1",
            "/BitsPerComponent 0", "/BitsPerComponent 7", "/BitsPerComponent 9", "/BitsPerComponent 1", "/BitsPerComponent 16", "/BitsPerComponent -8"}) {
            parms("/Predictor 10 " + wrong, false, false);
            parms("/Predictor 15 " + wrong, false, false);
            parms("/Predictor 1 " + wrong, true, false);
            parms(wrong, true, false);
        }
        parms("/Predictor 10 /Columns 1 /Colors 1 /BitsPerComponent 8", true, true);
        for (int columns = 1; columns <= 200; columns++) {
            String row = Files.noise(columns, columns);
            decodes("columns " + columns, "/Filter /FlateDecode /DecodeParms << /Predictor 11 /Columns " + columns + " >>",
                    Files.deflated("\0" + row + "\0" + row), row + row);
        }
    }

    /** Parms of several filters: of Flate alone their dicts are looked at. */
    private static void parmsOfMany() {
        String text = "\0a\0b\0c";
        String bad = "<< /Predictor 3 >>";
        String good = "<< /Predictor 12 >>";
        String hexed = Files.hex(Files.deflated(text));
        String two = "/Filter [ /ASCIIHexDecode /FlateDecode ] /DecodeParms ";
        decodes("of the second", two + "[ null " + good + " ]", hexed, "abc");
        decodes("of hex not looked at", two + "[ " + bad + " " + good + " ]", hexed, "abc");
        decodes("of hex alone", "/Filter /ASCIIHexDecode /DecodeParms " + bad, Files.hex(text), text);
        decodes("of hex alone, arrays", "/Filter [ /ASCIIHexDecode ] /DecodeParms [ " + bad + " ]", Files.hex(text), text);
        decodes("nulls", two + "[ null null ]", hexed, text);
        decodes("null", two + "null", hexed, text);
        decodes("an array of none", "/Filter [ ] /DecodeParms [ ]", text, text);
        decodes("null of none", "/Filter [ ] /DecodeParms null", text, text);
        decodes("an array for one name", "/Filter /FlateDecode /DecodeParms [ " + good + " ]", Files.deflated(text), "abc");
        decodes("a dict for an array of one", "/Filter [ /FlateDecode ] /DecodeParms " + good, Files.deflated(text), "abc");
        decodes("without a filter", "/DecodeParms " + bad, text, text);
        decodes("both of two", "/Filter [ /FlateDecode /FlateDecode ] /DecodeParms [ " + good + " << /Predictor 10 /Columns 2 >> ]",
                Files.deflated(plain(Files.deflated("\0ab\0cd"))), "abcd");
        for (String parms : new String[] {"[ null " + bad + " ]", "[ null ]", "[ null null null ]", "[ ]", good, "<< >>", "5", "/A", "(x)", "1 0 R",
            "[ null 5 ]", "[ null 1 0 R ]", "[ null [ ] ]", "true"}) {
            wrong("parms of two: " + parms, stream(two + parms, hexed), 7);
        }
    }

    /** Rows of one byte, of the kind none. */
    private static String plain(String text) {
        StringBuilder all = new StringBuilder();
        for (char c : text.toCharArray()) {
            all.append('\0').append(c);
        }
        return all.toString();
    }

    private static void filterNames() {
        String flate = Files.deflated("x");
        for (String filter : new String[] {"/FlateDecod", "/FlateDecodeX", "/flateDecode", "/Fl", "/", "/AHx", "/ASCIIHexDecodE", "/Crypt",
            "null", "true", "5", "(FlateDecode)", "<< >>", "1 0 R", "[ null ]", "[ /FlateDecode null ]", "[ /FlateDecode 1 0 R ]",
            "[ [ /FlateDecode ] ]", "[ /FlateDecode /FlateDecode /FlateDecode /Flate ]", "[ (FlateDecode) ]", "[ /FlateDecode /Crypt ]"}) {
            wrong("Filter " + filter, stream("/Filter " + filter, flate), 7);
            wrong("Filter " + filter + " of what is no code", stream("/Filter " + filter, "zz"), 7);
        }
        decodes("a name told by its bytes", "/Filter /#46lateDecode", flate, "x");
        decodes("three", "/Filter [ /FlateDecode /FlateDecode /FlateDecode ]",
                Files.deflated(Files.deflated(flate)), "x");
        wrong("the second is no code", stream("/Filter [ /FlateDecode /FlateDecode ]", flate), 8);
        wrong("the second is no hex", stream("/Filter [ /FlateDecode /ASCIIHexDecode ]", flate), 8);
        Checks.refuses("7 goes ahead of 8, of elder objects first", Files.empty().stream(3, "/Filter /FlateDecode", "x")
                .stream(4, "/Filter 5", "x").table("/Root 1 0 R"), 8, PLACE);
    }

    private static void hexBytes() {
        String entries = "/Filter /ASCIIHexDecode";
        for (int c = 0; c < 256; c++) {
            boolean white = "\0\t\n\f\r ".indexOf(c) >= 0;
            int digit = c < 128 ? Character.digit(c, 16) : -1;
            String data = "5" + (char) c + "1>";
            if (white) {
                decodes("hex with " + c, entries, data, "Q");
                decodes("hex ahead " + c, entries, (char) c + "51>", "Q");
                decodes("hex behind " + c, entries, "51>" + (char) c + (char) c, "Q");
            } else {
                wrong("hex behind " + c, stream(entries, "51>" + (char) c), 8);
                wrong("hex far behind " + c, stream(entries, "51> " + (char) c), 8);
                if (digit >= 0) {
                    decodes("hex digit " + c, entries, data, "" + (char) (0x50 + digit) + (char) 16);
                } else {
                    wrong("hex with " + c, stream(entries, data), 8);
                }
            }
        }
        decodes("no digits", entries, ">", "");
        decodes("one digit", entries, "7>", "p");
        wrong("nothing", stream(entries, ""), 8);
        wrong("white alone", stream(entries, "  "), 8);
    }

    private static void flateHeads() {
        String good = Files.deflated("abc").substring(2);
        for (int method = 0; method < 256; method++) {
            for (int flags = 0; flags < 256; flags++) {
                boolean checks = (method * 256 + flags) % 31 == 0;
                boolean right = checks && (method & 15) == 8 && method >> 4 <= 7 && (flags & 32) == 0;
                if (right) {
                    decodes("head " + method + " " + flags, "/Filter /FlateDecode", "" + (char) method + (char) flags + good, "abc");
                } else if (checks || method == 0x78) {
                    flateBad("head " + method + " " + flags, "" + (char) method + (char) flags + good);
                }
            }
        }
    }

    private static void flateTails() {
        String good = Files.deflated("abc");
        int end = good.length();
        for (int i = 1; i <= 4; i++) {
            String wrong = good.substring(0, end - i) + (char) (good.charAt(end - i) ^ 1) + good.substring(end - i + 1);
            flateBad("adler byte " + i, wrong);
        }
        flateBad("adler turned round", good.substring(0, end - 4) + new StringBuilder(good.substring(end - 4)).reverse());
        for (int c : new int[] {0, 10, 32, 255}) {
            flateBad("a byte behind " + c, good + (char) c);
        }
        // Bits behind the last block, up to the byte's end, are free.
        String bits = new Bits().add(1, 1).add(1, 2).code(0, 7).add(63, 6).zlib("");
        decodes("bits behind the last block", "/Filter /FlateDecode", bits, "");
        String stored = new Bits().add(1, 1).add(0, 2).add(31, 5).align().add(1, 16).add(65534, 16).add('a', 8).zlib("a");
        decodes("bits ahead of stored bytes", "/Filter /FlateDecode", stored, "a");
        flateBad("no last block", new Bits().add(0, 1).add(1, 2).code(0, 7).zlib(""));
        flateBad("a block behind the last one", new Bits().add(1, 1).add(1, 2).code(0, 7).add(1, 1).add(1, 2).code(0, 7).zlib(""));
    }

    private static void flateCutShort() {
        String text = "abcabcabcabcdefdefdefghi";
        String fixed = Files.deflated(text, 9, Deflater.FILTERED);
        String stored = Files.deflated(text, 0, Deflater.DEFAULT_STRATEGY);
        StringBuilder skewed = new StringBuilder();
        for (int i = 0; i < 600; i++) {
            skewed.append((char) ('a' + Integer.numberOfTrailingZeros(i * 7 + 64)));
        }
        String dynamic = Files.deflated(skewed.toString(), 9, Deflater.HUFFMAN_ONLY);
        Checks.due("a dynamic block", dynamic.charAt(2) >> 1 & 3, 2);
        for (String code : new String[] {fixed, stored, dynamic}) {
            for (int length = 0; length < code.length(); length++) {
                flateBad("cut to " + length, code.substring(0, length));
            }
        }
    }

    /** 8000 bytes of each filter, of Flate ahead of its predictor, too. */
    private static void flateSizes() {
        for (int more = 0; more <= 1; more++) {
            Bits rows = new Bits().add(1, 1).add(1, 2).code(48 + 'a', 8);
            // A literal, 29 rows of 258 bytes, two of 257, and one of three or four.
            for (int i = 0; i < 29; i++) {
                rows.code(197, 8).code(0, 5);
            }
            rows.code(196, 8).add(30, 5).code(0, 5).code(196, 8).add(30, 5).code(0, 5).code(1 + more, 7).code(0, 5).code(0, 7);
            sized("a row up to 8000", more == 0, "", rows.zlib(Files.repeat("a", 8000 + more)));
            sized("a literal more", more == 0, "", Files.deflated(Files.repeat("a", 7999) + Files.repeat("b", 1 + more)));
            sized("stored bytes", more == 0, " /FlateDecode",
                    Files.deflated(Files.deflated(Files.repeat("\0", 7989 + more), 0, Deflater.DEFAULT_STRATEGY)));
        }
        String head = "/Filter /FlateDecode /DecodeParms << /Predictor 10 >>";
        decodes("4000 rows", head, Files.deflated(Files.repeat("\0a", 4000)), Files.repeat("a", 4000));
        wrong("4001 rows", stream(head, Files.deflated(Files.repeat("\0a", 4001))), 8);
    }

    private static void sized(String what, boolean good, String more, String data) {
        if (good) {
            Checks.loads(what, file(stream("/Filter [ /FlateDecode" + more + " ]", data)), 0);
        } else {
            wrong(what + ", one too many", stream("/Filter [ /FlateDecode" + more + " ]", data), 8);
        }
    }

    /** A dynamic block's beginning; the sizes 0 .. 12 and the repeats 16, 17, 18 have codes of four bits. */
    private static Bits block(int literals, int distances, String sizesOfSizes) {
        int[] order = {16, 17, 18, 0, 8, 7, 9, 6, 10, 5, 11, 4, 12, 3, 13, 2, 14, 1, 15};
        Bits bits = new Bits().add(1, 1).add(2, 2).add(literals - 257, 5).add(distances - 1, 5).add(15, 4);
        for (int symbol : order) {
            bits.add(sizesOfSizes.charAt(symbol) - '0', 3);
        }
        return bits;
    }

    private static final String SIZES = "4444444444444000444";

    private static Bits zeros(Bits bits, int many) {
        int left = many;
        while (left >= 11) {
            int now = Math.min(138, left);
            bits.code(15, 4).add(now - 11, 7);
            left -= now;
        }
        for (; left > 0; left--) {
            bits.code(0, 4);
        }
        return bits;
    }

    /** Sizes for a and 256 (told as a text of digits for a, b, 256 and what is behind), then those of distances. */
    private static Bits sized(int literals, int distances, String four, String far) {
        Bits bits = zeros(block(literals, distances, SIZES), 97).code(four.charAt(0) - '0', 4).code(four.charAt(1) - '0', 4);
        zeros(bits, 256 - 99).code(four.charAt(2) - '0', 4);
        for (int i = 257; i < literals; i++) {
            bits.code(i - 254 < four.length() ? four.charAt(i - 254) - '0' : 0, 4);
        }
        for (int i = 0; i < distances; i++) {
            bits.code(i < far.length() ? far.charAt(i) - '0' : 0, 4);
        }
        return bits;
    }

    private static void flated(String what, boolean good, Bits bits, String text) {
        if (good) {
            decodes(what, "/Filter /FlateDecode", bits.zlib(text), text);
        } else {
            flateBad(what, bits.zlib(text));
        }
    }

    /** At most 286 codes of literals and 30 of distances, whatever their sizes. */
    private static void dynamicCounts() {
        for (int literals = 257; literals <= 288; literals++) {
            flated("literals " + literals, literals <= 286, sized(literals, 1, "101", "1").code(0, 1).code(1, 1), "a");
        }
        for (int distances = 1; distances <= 32; distances++) {
            flated("distances " + distances, distances <= 30, sized(257, distances, "101", "1").code(0, 1).code(1, 1), "a");
        }
        flated("both", true, sized(286, 30, "101", "1").code(0, 1).code(1, 1), "a");
    }

    private static void dynamicCodes() {
        Bits[] of = new Bits[] {block(257, 1, "4444444444440000444"), block(257, 1, "4444444444444400444"), block(257, 1, "4000000000000000000"),
            block(257, 1, "1000000000000000000"), block(257, 1, "0000000000000000000"), block(257, 1, "1100000000000000001")};
        for (Bits bits : of) {
            flateBad("sizes of sizes", bits.add(0, 30).zlib("a"));
        }
        flated("codes left over", false, sized(257, 1, "102", "1").code(0, 1).code(2, 2), "a");
        flated("too many codes", false, sized(257, 1, "111", "1").code(0, 1).code(1, 1), "a");
        flated("256 alone", false, sized(257, 1, "001", "1").code(0, 1), "");
        flated("no codes", false, sized(257, 1, "000", "1").code(0, 1), "");
        flated("256 has none", false, sized(258, 1, "1101", "1").code(0, 1), "a");
        flated("256 has none of two", false, sized(257, 1, "110", "1").code(0, 1).code(1, 1), "a");
        flated("three codes", true, sized(257, 1, "221", "1").code(2, 2).code(3, 2).code(0, 1), "ab");
        // a, 256, and the row of three; distances: of one, of two, ..
        flated("a single distance", true, sized(258, 1, "2012", "1").code(2, 2).code(3, 2).code(0, 1).code(0, 1), "aaaa");
        flated("the other bit of it", false, sized(258, 1, "2012", "1").code(2, 2).code(3, 2).code(1, 1).code(0, 1), "aaaa");
        flated("no distance", true, sized(258, 1, "2012", "0").code(2, 2).code(0, 1), "a");
        flated("no distances", true, sized(258, 9, "2012", "000000000").code(2, 2).code(0, 1), "a");
        flated("a row without a distance", false, sized(258, 1, "2012", "0").code(2, 2).code(3, 2).code(0, 1).code(0, 1), "aaaa");
        flated("a single later distance", true, sized(258, 3, "2012", "001").code(2, 2).code(2, 2).code(2, 2).code(3, 2).code(0, 1).code(0, 1), "aaaaaa");
        flated("a single one of two bits", false, sized(258, 1, "2012", "2").code(2, 2).code(0, 1), "a");
        flated("two distances", true, sized(258, 2, "2012", "11").code(2, 2).code(2, 2).code(3, 2).code(1, 1).code(0, 1), "aaaaa");
        flated("two distances that leave over", false, sized(258, 2, "2012", "12").code(2, 2).code(0, 1), "a");
        flated("two of two bits", false, sized(258, 2, "2012", "22").code(2, 2).code(0, 1), "a");
        flated("three of one bit", false, sized(258, 3, "2012", "111").code(2, 2).code(0, 1), "a");
        flated("four distances", true, sized(258, 4, "2012", "2222").code(2, 2).code(3, 2).code(0, 2).code(0, 1), "aaaa");
    }

    private static void dynamicRepeats() {
        flated("a repeat without one before", false, zeros(block(257, 1, SIZES).code(13, 4).add(0, 2), 254).code(1, 4).code(1, 4).code(0, 1), "");
        Bits two = zeros(block(257, 2, SIZES), 97).code(1, 4);
        flated("codes of one repeated", true, zeros(two, 256 - 98).code(1, 4).code(1, 4).code(1, 4).code(0, 1).code(1, 1), "a");
        // The last size of literals is repeated over all of three distances; six of them have three bits at most.
        Bits over = zeros(block(257, 4, SIZES), 97).code(1, 4);
        zeros(over, 256 - 98).code(1, 4).code(13, 4).add(1, 2);
        flated("a repeat from literals into distances", false, over.code(0, 1).code(1, 1), "a");
        Bits three = zeros(block(257, 4, SIZES), 94).code(2, 4).code(13, 4).add(0, 2);
        zeros(three, 256 - 98).code(0, 4);
        flated("a repeat of four codes without 256", false, three.code(2, 4).code(13, 4).add(0, 2).code(0, 2), "a");
        Bits four = zeros(block(257, 4, SIZES), 254).code(2, 4).code(1, 4).code(2, 4);
        flated("a repeat of distances", true, four.code(2, 4).code(13, 4).add(0, 2).code(3, 2), "");
        for (int more = 0; more <= 1; more++) {
            String what = (more == 0 ? "up to" : "beyond") + " the last one";
            Bits again = zeros(block(257, 4, SIZES), 97).code(1, 4);
            zeros(again, 256 - 98).code(1, 4).code(0, 4).code(13, 4).add(more, 2);
            flated("16 " + what, more == 0, again.code(0, 1).code(1, 1), "a");
            Bits few = zeros(block(257, 4, SIZES), 97).code(1, 4);
            zeros(few, 256 - 98).code(1, 4).code(1, 4).code(14, 4).add(more, 3);
            flated("17 " + what, more == 0, few.code(0, 1).code(1, 1), "a");
            Bits many = zeros(block(257, 12, SIZES), 97).code(1, 4);
            zeros(many, 256 - 98).code(1, 4).code(1, 4).code(15, 4).add(more, 7);
            flated("18 " + what, more == 0, many.code(0, 1).code(1, 1), "a");
        }
        flated("repeats of all lengths", true, sized(257, 1, "101", "1").code(0, 1).code(1, 1), "a");
    }

    /** Sizes of all kinds, 1 to 15: fifteen letters and 256. */
    private static void dynamicSizes() {
        Bits bits = block(257, 1, "4444444444444445005");
        bits.code(0, 4).code(1, 4);
        for (int size = 2; size <= 14; size++) {
            bits.code(size, 4);
        }
        bits.code(30, 5);
        // Zeros from 16 to 255, told by 18 twice.
        bits.code(31, 5).add(127, 7).code(31, 5).add(240 - 138 - 11, 7);
        bits.code(30, 5).code(0, 4);
        StringBuilder text = new StringBuilder();
        for (int size = 1; size <= 15; size++) {
            text.append((char) size);
            bits.code((1 << size) - 2, size);
        }
        decodes("sizes of all kinds", "/Filter /FlateDecode", bits.code(32767, 15).zlib(text.toString()), text.toString());
    }

    /** A second block whose sizes of sizes are fewer has no part in those of the first. */
    private static void dynamicTwice() {
        Bits bits = new Bits().add(0, 1).add(2, 2).add(0, 5).add(0, 5).add(15, 4);
        int[] order = {16, 17, 18, 0, 8, 7, 9, 6, 10, 5, 11, 4, 12, 3, 13, 2, 14, 1, 15};
        for (int symbol : order) {
            bits.add(SIZES.charAt(symbol) - '0', 3);
        }
        zeros(bits, 15).code(1, 4);
        zeros(bits, 240).code(1, 4).code(0, 4).code(0, 1).code(1, 1);
        bits.add(1, 1).add(2, 2).add(0, 5).add(0, 5).add(14, 4);
        for (int i = 0; i < 18; i++) {
            bits.add(SIZES.charAt(order[i]) - '0', 3);
        }
        zeros(bits, 97).code(1, 4);
        zeros(bits, 256 - 98).code(1, 4).code(0, 4).code(0, 1).code(1, 1);
        decodes("two blocks of their own", "/Filter /FlateDecode", bits.zlib("\u000fa"), "\u000fa");
    }

    private static void rowsOfBytes() {
        String head = "/Filter /FlateDecode";
        for (int distance = 1; distance <= 32; distance++) {
            int kind = 0;
            int base = 1;
            int more = 0;
            while (distance >= base + (1 << more)) {
                base += 1 << more;
                kind++;
                more = Math.max(0, kind / 2 - 1);
            }
            Bits near = new Bits().add(1, 1).add(1, 2);
            String text = "abcdefghijklmnopqrstuvwxyzABCDEF".substring(0, distance);
            for (char c : text.toCharArray()) {
                near.code(48 + c, 8);
            }
            StringBuilder want = new StringBuilder(text);
            for (int i = 0; i < 3; i++) {
                want.append(want.charAt(want.length() - distance));
            }
            decodes("distance " + distance, head, near.code(1, 7).code(kind, 5).add(distance - base, more).code(0, 7).zlib(want.toString()), want.toString());
        }
        Bits all = new Bits().add(1, 1).add(1, 2).code(48 + 'a', 8).code(48 + 'b', 8).code(1, 7).code(1, 5).code(0, 7);
        decodes("a distance of all that came", head, all.zlib("ababa"), "ababa");
        flateBad("one more", new Bits().add(1, 1).add(1, 2).code(48 + 'a', 8).code(48 + 'b', 8).code(1, 7).code(2, 5).code(0, 7).zlib("ababa"));
        flateBad("a row at first", new Bits().add(1, 1).add(1, 2).code(1, 7).code(0, 5).code(0, 7).zlib(""));
        for (int code = 286; code <= 287; code++) {
            flateBad("code " + code, new Bits().add(1, 1).add(1, 2).code(48 + 'a', 8).code(192 + code - 280, 8).code(0, 5).code(0, 7).zlib("aaaa"));
        }
        for (int far = 30; far <= 31; far++) {
            flateBad("distance code " + far, new Bits().add(1, 1).add(1, 2).code(48 + 'a', 8).code(1, 7).code(far, 5).add(0, 20).zlib("aaaa"));
        }
        for (int length = 0; length <= 2; length++) {
            for (int check : new int[] {65535 - length, 65534 - length, length, 0}) {
                boolean good = check == 65535 - length;
                Bits bits = new Bits().add(1, 1).add(0, 2).align().add(length, 16).add(check, 16);
                for (int i = 0; i < length; i++) {
                    bits.add('a', 8);
                }
                flated("stored " + length + " " + check, good, bits, Files.repeat("a", length));
            }
        }
        flateBad("more stored than there are", new Bits().add(1, 1).add(0, 2).align().add(9, 16).add(65526, 16).add('a', 8).zlib("a"));
    }

    private static void predictorRows() {
        String head = "/Filter /FlateDecode /DecodeParms << /Predictor 10 /Columns 3 >>";
        for (int kind = 0; kind < 256; kind++) {
            String row = (char) kind + "\1\2\3";
            if (kind <= 4) {
                decodes("a first row of " + kind, head, Files.deflated(row), kind == 1 || kind == 4 ? "\1\3\6" : kind == 3 ? "\1\2\4" : "\1\2\3");
            } else {
                wrong("a row of " + kind, stream(head, Files.deflated(row)), 8);
                wrong("a second row of " + kind, stream(head, Files.deflated("\0abc" + row)), 8);
            }
        }
        for (int length = 0; length <= 12; length++) {
            String rows = "\0abc\1\1\1\1\2\1\1\1".substring(0, length);
            if (length % 4 == 0) {
                decodes("rows of " + length, head, Files.deflated(rows), "abc\1\2\3\2\3\4".substring(0, length / 4 * 3));
            } else {
                wrong("rows of " + length, stream(head, Files.deflated(rows)), 8);
            }
        }
        // Corner 100, above 110, left 80: left and the corner are as near; left goes ahead.
        decodes("Paeth of as near ones", "/Filter /FlateDecode /DecodeParms << /Predictor 14 /Columns 2 >>",
                Files.deflated("\0\144\156\4\u00ec\0"), "\144\156\120\120");
        decodes("sums of eight bits", head, Files.deflated("\0\u00ff\u00ff\u00ff\1\u00ff\u00ff\2\2\3\3\3\3\u00ff\u00ff\u00ff\4\u00ff\1\1"),
                "\u00ff\u00ff\u00ff" + "\u00ff\u00fe\0" + "\2\1\3" + "\0\u00ff\u0080" + "\u00ff\0\1");
    }

    /** The dicts of object streams, and their pairs. */
    private static void streamsInside() {
        String good = "/Type /ObjStm /N 2 /First 8 ";
        String data = "7 0 4 3 [] (in)";
        for (String n : new String[] {"-1", "0", "1", "201", "2.0", "(2)", "null", "1 0 R", "2147483647"}) {
            insideWrong("N " + n, good.replace("/N 2", "/N " + n), data, 1, 6, PLACE);
        }
        for (String first : new String[] {"-1", "8.0", "(8)", "null", "1 0 R", "/A"}) {
            insideWrong("First " + first, good.replace("/First 8", "/First " + first), data, 1, 6, PLACE);
        }
        for (String type : new String[] {"/XRef", "/ObjStn", "(ObjStm)", "null", "1 0 R", "5"}) {
            insideWrong("Type " + type, good.replace("/ObjStm", type), data, 1, 6, PLACE);
        }
        for (String entry : new String[] {"/N", "/First", "/Type"}) {
            insideWrong("no " + entry, good.replace(entry + " ", "/Other "), data, 1, 6, PLACE);
        }
        for (String pairs : new String[] {"7 0 5 3", "7 0 +4 3", "7 0 4 +3", "7 0 4.0 3", "7 0 4 3.", "x 0 4 3", "7 x 4 3", "-7 0 4 3", "7 -0 4 3",
            "99999999999 0 4 3", "7 99999999999 4 3", "7 0 4 2147483648", "7 0 (4) 3", "[ 0 4 3", "7 0 4", "7 0", "", "7 0 4 3x", "4 3 7 0"}) {
            String all = pairs + " [] (in)";
            insideWrong("pairs " + pairs, good.replace("First 8", "First " + (pairs.length() + 1)), all, 1, 6, PLACE);
        }
        for (String pairs : new String[] {"7 0 4 3", "0 0 4 3", "2147483647 2147483647 04 03", "4 3 4 3", "7%x\n0\r4\0" + "3", "\f7 0 4 3%x"}) {
            House x = Checks.loads("pairs " + pairs, inside(good.replace("First 8", "First " + (pairs.length() + 1)), pairs + "\n[] (in)", 3, 1), 0);
            Checks.due("pairs " + pairs, x.go(4), 5);
        }
        StringBuilder pairs = new StringBuilder();
        for (int i = 0; i < 200; i++) {
            pairs.append(i == 199 ? "4 0 " : "5 0 ");
        }
        String entries = "/Type /ObjStm /N 200 /First 800 ";
        Checks.due("200 pairs", Checks.loads("200 pairs", inside(entries, pairs + "/in", 3, 199), 0).go(4), 4);
        insideWrong("201 pairs", entries.replace("/N 200", "/N 201"), "5 0 " + pairs + "/in", 200, 6, PLACE);
        insideWrong("the 201st of 200", entries, pairs + "4 0 /in", 200, 6, PLACE);
        insideWrong("no pairs", "/Type /ObjStm /N 0 /First 0 ", "/in", 0, 6, PLACE);
        insideWrong("a pair of no number", entries, pairs.substring(4) + "x 0 /in", 198, 6, PLACE);
    }

    /** Where an object begins in an object stream's bytes, and where its faults are. */
    private static void placesInside() {
        String entries = "/Type /ObjStm /N 1 /First ";
        Checks.due("First 0", Checks.loads("First 0", inside(entries + "0 ", "4 4 /in", 3, 0), 0).go(4), 4);
        Checks.due("within the pairs", Checks.loads("within", inside(entries + "0 ", "4 0 ", 3, 0), 0).go(4), 2);
        Checks.due("behind white", Checks.loads("behind white", inside(entries + "4 ", "4 0 %x\n \0/in", 3, 0), 0).go(4), 4);
        Checks.due("the last byte", Checks.loads("the last byte", inside(entries + "4 ", "4 2   7", 3, 0), 0).go(4), 2);
        Checks.due("what is behind is free", Checks.loads("behind", inside(entries + "4 ", "4 0 [] ) x", 3, 0), 0).go(4), 6);
        insideWrong("the end", entries + "4 ", "4 2   ", 0, 4, 6);
        insideWrong("behind the end", entries + "4 ", "4 3   ", 0, 4, 6);
        insideWrong("far behind", entries + "2147483647 ", "4 2147483647 7", 0, 4, 14);
        insideWrong("a token", entries + "4 ", "4 1  [ 1 )", 0, 4, 9);
        insideWrong("an end within", entries + "4 ", "4 0 [ 1 ", 0, 4, 8);
        insideWrong("a string's end within", entries + "4 ", "4 0 [ (1 ", 0, 4, 6);
        insideWrong("a limit", entries + "4 ", "4 0 [ 1 99999999999 ]", 0, 5, 8);
        insideWrong("a word", entries + "4 ", "4 0 endobj", 0, 4, 4);
        insideWrong("the first fault is of the bytes", entries + "4 ", Files.repeat(" ", 0) + "4 0 <</A 1/A 2>>", 0, 5, 10);
        for (int generation = 0; generation <= 1; generation++) {
            String tree = "<< /Type /Pages /Kids [ ] /Count 0 /Rotate 3 " + generation + " R >>";
            Files files = new Files().object(1, Files.CATALOG).object(2, tree);
            String file = inRow(files, "\2\0\5\1", "7", "/Type /ObjStm /N 2 /First 8 ", "7 0 3 3 [] 45 ", '\0');
            if (generation == 0) {
                Checks.refuses("its generation is 0", file, 10, 2);
            } else {
                Checks.loads("a reference of another one is NULL", file, 0);
            }
        }
    }

    /** The streams that hold others: by what entry they stand where. */
    private static void holders() {
        Files later = Files.empty().stream(3, "", "abc");
        int place = later.placeOf(3);
        String file = inRow(later, "\2\0\5\0", "7", "/Type /ObjStm /N 1 /First 4", "3 0 /in", '\0');
        House x = Checks.loads("a later holder", file, 0);
        Checks.due("read first", x.go(3), 4);
        Files wrong = Files.empty();
        file = inRow(wrong, "\2\0\5\0", ")", "/Type /ObjStm /N 1 /First 4", "3 0 )", '\0');
        Checks.refuses("what is in it goes ahead of the next", file, 4, 4);
        Files generation = Files.empty();
        file = inRow(generation, "\2\0\5\0", "7", "/Type /ObjStm /N 1 /First 4", "3 0 /in", '\1');
        Checks.refuses("a holder of generation 1", file.replace("5 0 obj", "5 1 obj"), 6, file.indexOf("5 0 obj"));
        file = inRow(Files.empty(), "\2\0\6\0", "7", "/Type /ObjStm /N 1 /First 4", "3 0 /in", '\0');
        Checks.refuses("a free holder", file, 6, file.length());
        file = inRow(Files.empty(), "\2\0\0\0", "7", "/Type /ObjStm /N 1 /First 4", "3 0 /in", '\0');
        Checks.refuses("holder 0", file, 6, file.length());
        file = inRow(Files.empty(), "\2\u00ff\u00ff\0", "7", "/Type /ObjStm /N 1 /First 4", "3 0 /in", '\0');
        Checks.refuses("a holder far beyond", file, 6, file.length());
        file = inRow(Files.empty(), "\2\0\3\0", "7", "/Type /ObjStm /N 1 /First 4", "3 0 /in", '\0');
        Checks.refuses("itself", file, 6, file.length());
        file = inRow(Files.empty(), "\2\0\4\0", "7", "/Type /ObjStm /N 1 /First 4", "3 0 /in", '\0');
        Checks.refuses("a whole", file, 6, file.indexOf("4 0 obj"));
        Checks.due("the place that was", place, PLACE);
    }

    /** Object 3 as that row says, 4 at a place, the object stream 5 of that generation. */
    private static String inRow(Files files, String row, String four, String entries, String data, char generation) {
        files.object(4, four).stream(5, entries, data);
        int begin = files.length();
        StringBuilder rows = new StringBuilder();
        for (int n : new int[] {1, 2, 3, 4, 5}) {
            if (n == 3) {
                rows.append(row);
            } else {
                rows.append('\1').append((char) (files.placeOf(n) >> 8)).append((char) (files.placeOf(n) & 255)).append(n == 5 ? generation : '\0');
            }
        }
        files.raw("9 0 obj << /Type /XRef /Size 6 /W [ 1 2 1 ] /Index [ 1 5 ] /Root 1 0 R /Length 20 >> stream\n" + rows
                + "\nendstream endobj ");
        return files.end(begin);
    }
}
