/** Promises 5, 17 and 18: a page is shown. */
public final class ShowTest {
    private static final String FONT = "<< /Type /Font /FirstChar 65 /LastChar 67 /Widths [ 500 250.5 5 0 R ] >>";
    private static final int ONE = 65536;

    public static void main(String[] args) {
        strings();
        matrices();
        keeping();
        lines();
        nothings();
        operands();
        manyOperands();
        tokens();
        order();
        fonts();
        fontObjects();
        far();
        farTexts();
        manyGlyphs();
        theAnswers();
        doNothings();
        operatorNames();
        operandForms();
        edgesOfOperands();
        fullOfOperands();
        objectsAtATime();
        whatIsNoToken();
        keptThings();
        edgesOfOrder();
        whatGoesAhead();
        edgesOfFonts();
        widthsOfFonts();
        nearest();
        edgesOfProducts();
        edgesOfMoves();
        edgesOfGlyphs();
        remarksAndWhite();
        severalStreams();
        shownAgain();
        shownOften();
        Checks.end();
    }

    private static House house(String font) {
        return Checks.loads("a house", new Files().object(1, Files.CATALOG).object(2, Files.ONE_PAGE)
                .object(3, "<< /Type /Page /Parent 2 0 R /MediaBox [ 0 0 10 20 ] /Resources << /Font << /F 4 0 R /G " + FONT
                        + " >> >> >>").object(4, font).object(5, "1000").object(6, "4 0 R").stream(7, "", "").table("/Root 1 0 R"), 1);
    }

    private static House shows(String contents, int glyphs) {
        House x = house(FONT);
        Files.contents(x, 0, contents);
        Checks.due(contents + ": show", x.show(0), glyphs);
        Checks.due(contents + ": fault(2)", x.fault(2), glyphs < 0 ? -100 - glyphs : 0);
        if (glyphs >= 0) {
            Checks.due(contents + ": fault(3)", x.fault(3), -1);
            Checks.due(contents + ": one more", x.glyph(glyphs, 0), -1);
        } else {
            Checks.due(contents + ": no glyph", x.glyph(0, 0), -1);
        }
        return x;
    }

    private static void wrong(String contents, int fault, int place) {
        Checks.due(contents + ": fault(3)", shows(contents, -100 - fault).fault(3), place);
    }

    private static void glyph(String what, House x, int i, int code, double left, double up, double size, int font) {
        Checks.due(what + ": code of " + i, x.glyph(i, 0), code);
        Checks.due(what + ": x of " + i, x.glyph(i, 1), Math.round(left * ONE));
        Checks.due(what + ": y of " + i, x.glyph(i, 2), Math.round(up * ONE));
        Checks.due(what + ": size of " + i, x.glyph(i, 3), Math.round(size * ONE));
        Checks.due(what + ": font of " + i, x.glyph(i, 4), font);
    }

    private static void strings() {
        House x = shows("/F 10 Tf 1 Tc 2 Tw BT 5 7 Td (A CB\\377) Tj ET", 5);
        glyph("strings", x, 0, 'A', 5, 7, 10, 4);
        glyph("strings", x, 1, ' ', 11, 7, 10, 4);
        glyph("strings", x, 2, 'C', 14, 7, 10, 4);
        glyph("strings", x, 3, 'B', 25, 7, 10, 4);
        glyph("strings", x, 4, 255, 28.505, 7, 10, 4);
        House y = shows("BT /G -2 Tf [ (A) 500 (A) -1000.0 () (A) ] TJ ET", 3);
        glyph("pieces", y, 0, 'A', 0, 0, -2, 0);
        glyph("pieces", y, 1, 'A', 0, 0, -2, 0);
        glyph("pieces", y, 2, 'A', -3, 0, -2, 0);
        House z = shows("/F 10 Tf 1 Tc 2 Tw BT [ 100 (A) -200 (A ) 50 50 (A) ] TJ ET", 4);
        glyph("numbers move alone", z, 0, 'A', -1, 0, 10, 4);
        glyph("Tc comes with glyphs", z, 1, 'A', 7, 0, 10, 4);
        glyph("Tw with blanks", z, 2, ' ', 13, 0, 10, 4);
        glyph("two numbers", z, 3, 'A', 15, 0, 10, 4);
        shows("BT /F 10 Tf () Tj [ ] TJ ET", 0);
        shows("BT [ 5 6 ] TJ ET", 0);
    }

    private static void matrices() {
        House x = shows("2 0 0 3 10 20 cm BT /F 4 Tf 1 0 .5 1 1 2 Tm (AA) Tj 1 1 Td (A) Tj ET", 3);
        glyph("matrices", x, 0, 'A', 12, 26, 4, 4);
        glyph("matrices", x, 1, 'A', 16, 26, 4, 4);
        glyph("matrices", x, 2, 'A', 15, 29, 4, 4);
        House y = shows("1 0 0 1 5 0 cm 0 1 -1 0 0 0 cm BT /F 2 Tf 3 4 Td (AA) Tj ET", 2);
        glyph("turned", y, 0, 'A', 1, 3, 2, 4);
        glyph("turned", y, 1, 'A', 1, 4, 2, 4);
        // 1/65536 times one half is nearest to the greater of 0 and 1, and of -1 and 0.
        House z = shows(".5 0 0 .5 0 0 cm BT /F 0 Tf .0000153 -.0000153 Td (A) Tj ET", 1);
        Checks.due("half a unit", z.glyph(0, 1), 1);
        Checks.due("minus half a unit", z.glyph(0, 2), 0);
        // 250.5 times 1/65536 a thousandth of: less than half a unit; 500.. at size 1.0 is half of one.
        House w = shows("BT /F .002 Tf (A) Tj (A) Tj ET", 2);
        Checks.due("a small width", w.glyph(1, 1), 66);
    }

    private static void keeping() {
        House x = shows("/F 10 Tf 1 Tc q 2 0 0 2 0 0 cm /G 5 Tf 3 Tc BT (AA) Tj ET Q BT (AA) Tj ET", 4);
        glyph("within", x, 1, 'A', 11, 0, 5, 0);
        glyph("behind", x, 3, 'A', 6, 0, 10, 4);
        shows(Files.repeat("q ", 20) + Files.repeat("Q ", 20), 0);
        wrong(Files.repeat("q ", 21), 12, 40);
        wrong("q Q Q", 12, 4);
        wrong("q /F 1 Tf Q BT (A) Tj ET", 13, 19);
    }

    private static void lines() {
        House x = shows("BT /F 10 Tf 1 2 Td 3 -4 TD (A) Tj T* (A) Tj 7 TL T* (A) Tj (A) ' ET BT (A) Tj T* (A) Tj ET", 6);
        glyph("TD", x, 0, 'A', 4, -2, 10, 4);
        glyph("T*", x, 1, 'A', 4, -6, 10, 4);
        glyph("TL", x, 2, 'A', 4, -13, 10, 4);
        glyph("'", x, 3, 'A', 4, -20, 10, 4);
        glyph("BT again", x, 4, 'A', 0, 0, 10, 4);
        glyph("TL stays", x, 5, 'A', 0, -7, 10, 4);
    }

    private static void nothings() {
        shows("1 2 m 3 4 l 1 2 3 4 5 6 c 1 2 3 4 v 1 2 3 4 y 1 2 3 4 re h S s f F f* B B* b b* n W W*", 0);
        shows("1 w 0 J 0 j 10 M 1 i .5 g .5 G 1 0 0 rg 0 0 1 RG 0 0 0 1 k 0 0 0 1 K [ 3 (x) /A [ << >> ] ] 0 d", 0);
        shows("BT 1 2 m S ET %no (more\rBT ET", 0);
        shows("", 0);
        shows("1 2 (waiting) /A [ ] << /A 1 >> true null", 0);
    }

    private static void operands() {
        for (String op : new String[] {"1 m", "1 2 3 m", "1 /A m", "1 (2) l", "1 2 3 4 5 c", "1 h", "S1", "x", "BI", "Do", "\"",
            "1 2 TL", "Tc", "/A Tc", "1 2 q", "1 BT", "BX", "Tfx", "true g", "null g", "32768 g", "-32769 g", "[ 1 ] 2 3 d",
            "1 [ ] d", "1 2 d", "[ ] /A d", "/F Tf", "/F /F Tf", "1 /F Tf", "(F) 1 Tf", "BT (a) (b) Tj", "BT /a Tj",
            "BT [ /A ] TJ", "BT [ [ ] ] TJ", "BT [ 32768 ] TJ", "BT (a) TJ", "BT [ ] Tj", "BT 1 Td", "BT 1 2 3 4 5 Tm",
            "R", "1 0 R", "f**", "W*x"}) {
            wrong(op, 11, Math.max(0, op.lastIndexOf(' ') + 1));
        }
        shows("-32768 g 32767 g 32767.9 g", 0);
    }

    private static void manyOperands() {
        String forty = Files.repeat("1 ", 40);
        wrong(forty + "1", 11, 80);
        wrong(forty + " )", 11, 81);
        wrong(forty + "%x\n[", 11, 83);
        wrong(forty + "m", 11, 80);
        wrong(forty + "x", 11, 80);
        wrong(forty + "null", 11, 80);
        shows(forty, 0);
        shows(forty + " %1", 0);
        String zeros = Files.repeat("0 ", 3900);
        House x = house(FONT);
        for (int more = 0; more <= 2; more++) {
            Files.load(x, new Files().object(1, Files.CATALOG).object(2, Files.ONE_PAGE)
                    .object(3, "<< /Type /Page /Parent 2 0 R /MediaBox [ 0 0 10 20 ] /Contents [ 4 0 R 5 0 R ] >>")
                    .stream(4, "/Filter /FlateDecode", Files.deflated("[" + zeros))
                    .stream(5, "/Filter /FlateDecode", Files.deflated(Files.repeat("0 ", 2098 + more) + "] 0 d [ 1 ] 0 d"))
                    .table("/Root 1 0 R"));
            // The array, 3900 and 2098 parts and the number behind it are 6000.
            Checks.due("6000 and " + more, x.show(0), more == 0 ? 0 : -105);
            Checks.due("its place", x.fault(3), more == 0 ? -1 : 7801 + 1 + 2 * 2098 + (more == 1 ? 4 : 2));
        }
    }

    private static void tokens() {
        wrong("1 )", 4, 2);
        wrong("[ 1", 4, 3);
        wrong("(a", 4, 0);
        wrong("[ 1 0 R ]", 4, 6);
        wrong("[ q ]", 4, 2);
        wrong("<< /A 1 /A 2 >>", 5, 8);
        wrong("12345678901 g", 5, 0);
        wrong("]", 4, 0);
        wrong(">>", 4, 0);
        wrong(Files.repeat("[", 21), 5, 20);
        wrong("/A#0 g", 4, 0);
        wrong("/" + Files.repeat("A", 61), 5, 0);
    }

    private static void order() {
        wrong("BT BT", 12, 3);
        wrong("ET", 12, 0);
        wrong("BT ET ET", 12, 6);
        wrong("BT q", 12, 3);
        wrong("q BT Q", 12, 5);
        wrong("BT 1 0 0 1 0 0 cm", 12, 15);
        wrong("BT ", 12, 3);
        wrong("q", 12, 1);
        wrong("q (x) ", 12, 6);
        for (String op : new String[] {"1 2 Td", "1 2 TD", "1 0 0 1 0 0 Tm", "T*", "(a) Tj", "(a) '", "[ (a) ] TJ"}) {
            wrong(op, 12, Math.max(0, op.lastIndexOf(' ') + 1));
        }
        wrong("1 Tj", 11, 2);
        wrong("/F 1 Tf 1 Tc 1 Tw 1 TL ET", 12, 23);
    }

    private static void fonts() {
        wrong("BT (a) Tj", 13, 7);
        wrong("BT () Tj", 13, 6);
        wrong("BT (a) '", 13, 7);
        wrong("BT -32768.0 TL (a) '", 13, 19);
        wrong("BT [ 32767 (a) ] TJ", 13, 17);
        wrong("/H 1 Tf", 13, 5);
        String[] bad = {"<< >>", "[ ]", "<< /Type /Fon /FirstChar 65 /LastChar 65 /Widths [ 1 ] >>",
            "<< /Type /Font /LastChar 65 /Widths [ 1 ] >>", "<< /Type /Font /FirstChar 65 /Widths [ 1 ] >>",
            "<< /Type /Font /FirstChar 65 /LastChar 65 >>", "<< /Type /Font /FirstChar 65 /LastChar 65 /Widths 1 >>",
            "<< /Type /Font /FirstChar 65 /LastChar 64 /Widths [ ] >>", "<< /Type /Font /FirstChar -1 /LastChar 0 /Widths [ 1 1 ] >>",
            "<< /Type /Font /FirstChar 255 /LastChar 256 /Widths [ 1 1 ] >>", "<< /Type /Font /FirstChar 65 /LastChar 65 /Widths [ 1 1 ] >>",
            "<< /Type /Font /FirstChar 65 /LastChar 66 /Widths [ 1 ] >>", "<< /Type /Font /FirstChar 65 /LastChar 65 /Widths [ /A ] >>",
            "<< /Type /Font /FirstChar 65 /LastChar 65 /Widths [ 32768 ] >>", "<< /Type /Font /FirstChar 65.0 /LastChar 65 /Widths [ 1 ] >>",
            "<< /Type /Font /FirstChar 65 /LastChar 65 /Widths [ 1 ] /Length 0 >> stream\n\nendstream", "null"};
        for (String font : bad) {
            House x = house(font);
            Files.contents(x, 0, "/F 1 Tf");
            Checks.due("font " + font, x.show(0), -113);
        }
        House all = house("<< /Type /Font /FirstChar 0 /LastChar 255 /Widths [ " + Files.repeat("7 ", 256) + "] >>");
        Files.contents(all, 0, "/F 1000 Tf BT (\\000\\377) Tj ET");
        Checks.due("256 widths", all.show(0), 2);
        Checks.due("the width of 0", all.glyph(1, 1), 7 * ONE);
        House none = Checks.loads("no Resources", Files.paged().table("/Root 1 0 R"), 1);
        Files.contents(none, 0, "/F 1 Tf");
        Checks.due("no Resources: show", none.show(0), -113);
    }

    private static void fontObjects() {
        String font = FONT.replace(" 5 0 R", " 1");
        House x = Checks.loads("rows", new Files().object(1, Files.CATALOG)
                .object(2, Files.ONE_PAGE.replace("/Count", "/Resources 5 0 R /Count"))
                .object(3, Files.PAGE).object(4, font).object(5, "<< /Font 6 0 R >>").object(6, "<< /F 7 0 R >>")
                .object(7, "4 0 R").table("/Root 1 0 R"), 1);
        Files.contents(x, 0, "/F 1 Tf BT (A) Tj ET");
        Checks.due("rows: show", x.show(0), 1);
        Checks.due("the last object's number", x.glyph(0, 4), 4);
    }

    private static void far() {
        wrong("32767 0 0 1 0 0 cm 2 0 0 1 0 0 cm", 14, 31);
        wrong("1 0 0 32767 0 0 cm 1 0 0 2 0 0 cm", 14, 31);
        wrong("1 0 0 1 0 -32768 cm 1 0 0 1 0 -.000007 cm 1 0 0 1 0 -.00002 cm", 14, 60);
        shows("32767 0 0 1 0 0 cm 1 0 0 32767 -1 32767 cm", 0);
    }

    private static void farTexts() {
        wrong("BT 32767 0 Td 1 0 Td", 14, 18);
        wrong("BT 0 -32768 TD", 14, 12);
        wrong("BT -32768 TL T*", 14, 13);
        wrong("/F 1 Tf BT -32768 TL (A) '", 14, 25);
        wrong("2 0 0 1 0 0 cm /F 1 Tf BT 32767 0 Td (A) Tj", 14, 41);
        wrong("2 0 0 2 0 0 cm /F 1 Tf BT 1 0 0 32767 0 0 Tm (A) Tj", 14, 49);
        wrong("/F 32767 Tf BT (AAA) Tj", 14, 21);
        wrong("/F 32767 Tf 32767 Tc BT (A) Tj", 14, 28);
        wrong("/F 32767 Tf BT [ -32767 ] TJ", 14, 26);
        wrong("/F 32767 Tf BT [ 32767 ] TJ", 14, 25);
        wrong("BT /F 1 Tf 1 0 0 1 32767 0 Tm 32767 Tc () Tj (A) Tj", 14, 49);
        shows("BT 0 -32768 Td 0 32767 Td ET", 0);
        shows("BT -32768 -32768 -32768 -32768 -32768 -32768 Tm ET", 0);
    }

    private static void manyGlyphs() {
        String hundred = "(" + Files.repeat("A", 100) + ") Tj ";
        String contents = "/F .01 Tf BT " + Files.repeat(hundred, 15);
        shows(contents + "() Tj ET", 1500);
        wrong(contents + "(A) Tj ET", 5, contents.length() + 4);
    }

    private static void theAnswers() {
        House x = house(FONT);
        Checks.due("fault(2) before", x.fault(2), 0);
        Checks.due("fault(3) before", x.fault(3), -1);
        Checks.due("show below", x.show(-1), -1);
        Checks.due("show beyond", x.show(1), -1);
        Files.contents(x, 0, "BT /F 1 Tf (AB) Tj ET");
        Checks.due("two", x.show(0), 2);
        Checks.due("glyph below", x.glyph(-1, 0), -1);
        Checks.due("glyph(0, 5)", x.glyph(0, 5), -1);
        Checks.due("glyph(0, -1)", x.glyph(0, -1), -1);
        Checks.due("none such", x.show(7), -1);
        Checks.due("the glyphs stay", x.glyph(1, 0), 'B');
        Files.contents(x, 0, "ET");
        Checks.due("they stay behind a change", x.glyph(1, 0), 'B');
        Checks.due("a fault", x.show(0), -112);
        Checks.due("they are gone", x.glyph(0, 0), -1);
        Checks.due("fault(2)", x.fault(2), 12);
        Checks.due("none such again", x.show(7), -1);
        Checks.due("fault(2) stays", x.fault(2), 12);
        Checks.due("fault(0) has no part in it", x.fault(0), 0);
        Files.load(x, Files.empty().table("/Root 1 0 R"));
        Checks.due("fault(2) behind load", x.fault(2), 0);
        Checks.due("fault(3) behind load", x.fault(3), -1);
        House y = house(FONT);
        Files.contents(y, 0, "BT /F 1 Tf (AB) Tj ET");
        y.show(0);
        Files.load(y, Files.empty().table("/Root 1 0 R"));
        Checks.due("no glyphs behind load", y.glyph(0, 0), -1);
    }

    private static final String SIX = "1 2 3 4 5 6";

    /** Operators that do nothing: with as many numbers as they take, and with one less, one more, another kind. */
    private static void doNothings() {
        String[] ops = {"m", "l", "c", "v", "y", "re", "h", "S", "s", "f", "F", "f*", "B", "B*", "b", "b*", "n", "W", "W*",
            "w", "J", "j", "M", "i", "g", "G", "rg", "RG", "k", "K"};
        int[] many = {2, 2, 6, 4, 4, 4, 0, 0, 0, 0, 0, 0, 0, 0, 0, 0, 0, 0, 0, 1, 1, 1, 1, 1, 1, 1, 3, 3, 4, 4};
        for (int i = 0; i < ops.length; i++) {
            for (int given = 0; given <= 7; given++) {
                String[] parts = "-1.5 2 +3 .4 5. -32768 32767".split(" ");
                StringBuilder contents = new StringBuilder();
                for (int k = 0; k < given; k++) {
                    contents.append(parts[k]).append(' ');
                }
                takes(contents + ops[i], given == many[i]);
                takes("BT " + contents + ops[i] + " ET", given == many[i]);
            }
            for (int at = 0; at < many[i]; at++) {
                for (String other : new String[] {"/A", "(1)", "<31>", "[ 1 ]", "<< >>", "true", "null", "32768", "-32769", "2147483647"}) {
                    takes("1 ".repeat(at) + other + " " + "1 ".repeat(many[i] - at - 1) + ops[i], false);
                }
            }
        }
        String[] texts = {"[ ] 0 d", "[ 1 2 ] -1.5 d", "[ /A (x) [ ] << >> null true ] 0 d"};
        for (String text : texts) {
            takes(text, true);
        }
        for (String text : new String[] {"d", "[ ] d", "0 d", "0 [ ] d", "[ ] 0 0 d", "[ ] [ ] d", "[ ] /A d", "[ ] 32768 d", "<< >> 0 d", "(x) 0 d", "null 0 d"}) {
            takes(text, false);
        }
    }

    /** Contents of one operator: shown without a glyph, or 11 at the operator. */
    private static void takes(String contents, boolean good) {
        if (good) {
            shows(contents, 0);
        } else {
            String bare = contents.endsWith(" ET") && contents.startsWith("BT ") ? contents.substring(0, contents.length() - 3) : contents;
            wrong(contents, 11, bare.lastIndexOf(' ') + 1);
        }
    }

    /** Each word of one byte, and of two: only those that the document tells are operators. */
    private static void operatorNames() {
        String known = " q Q cm BT ET Tf Tc Tw TL Td TD Tm T* Tj ' TJ m l c v y re h S s f F f* B B* b b* n W W* w J j M i g G rg RG k K d ";
        House x = house(FONT);
        String signs = "*'\"abcdefghijklmnopqrstuvwxyzABCDEFGHIJKLMNOPQRSTUVWXYZ0";
        for (char one : signs.toCharArray()) {
            for (char two : (" " + signs).toCharArray()) {
                String word = ("" + one + two).trim();
                if (word.startsWith("0") && (word.length() == 1 || word.equals("00"))) {
                    continue;
                }
                if (!known.contains(" " + word + " ")) {
                    Files.load(x, FILE);
                    Files.contents(x, 0, word);
                    Checks.due("the word " + word, x.show(0), -111);
                    Checks.due("its place", x.fault(3), 0);
                }
            }
        }
        for (String word : new String[] {"Tfx", "xTf", "qq", "BTT", "BMC", "EMC", "BDC", "Do", "gs", "sh", "cs", "CS", "sc", "SC", "scn", "SCN", "ri", "MP",
            "DP", "BX", "EX", "BI", "ID", "EI", "Tr", "Ts", "Tz", "d0", "d1", "obj", "endobj", "stream", "R", "trueq", "nullq", "falsefalse", "True", "-", "+", ".",
            "1.2.3", "--1", "1-2", "1a", "..", "+."}) {
            wrong(word, 11, 0);
        }
    }

    private static final String FILE = new Files().object(1, Files.CATALOG).object(2, Files.ONE_PAGE).object(3, Files.PAGE).table("/Root 1 0 R");

    private static void operandForms() {
        for (String op : new String[] {"q", "Q", "BT", "ET", "T*"}) {
            wrong("1 " + op, 11, 2);
            wrong("BT (x) " + op, 11, 7);
        }
        for (String op : new String[] {"Tc", "Tw", "TL"}) {
            takes("-32768 " + op, true);
            takes("32767 " + op, true);
            takes("-32768.0 " + op, true);
            for (String other : new String[] {"", "1 2", "32768", "-32769", "/A", "(1)", "[ 1 ]", "null", "true", "<< >>"}) {
                takes((other + " " + op).trim(), false);
            }
        }
        for (String op : new String[] {"Td", "TD"}) {
            for (String other : new String[] {"", "1", "1 2 3", "/A 1", "1 (1)", "32768 1", "1 -32769", "[ 1 ] 2", "[ 1 2 ]"}) {
                takes("BT " + (other + " " + op).trim() + " ET", false);
            }
        }
        for (String op : new String[] {"cm", "Tm"}) {
            String bt = op.equals("cm") ? "" : "BT ";
            for (int at = 0; at < 6; at++) {
                for (String other : new String[] {"32768", "-32769", "/A", "(1)", "[ ]", "null"}) {
                    wrong(bt + "1 ".repeat(at) + other + " " + "1 ".repeat(5 - at) + op, 11, bt.length() + 12 - 2 + other.length() + 1);
                }
            }
            wrong(bt + "1 2 3 4 5 " + op, 11, bt.length() + 10);
            wrong(bt + SIX + " 7 " + op, 11, bt.length() + 14);
            wrong(bt + op, 11, bt.length());
        }
        for (String other : new String[] {"", "/F", "1", "1 /F", "/F /F", "/F (1)", "(F) 1", "/F 32768", "/F -32769", "/F 1 1", "/F /F 1", "[ /F ] 1", "/F [ 1 ]"}) {
            takes((other + " Tf").trim(), false);
        }
        for (String op : new String[] {"Tj", "'"}) {
            for (String other : new String[] {"", "/A", "1", "[ (x) ]", "(x) (x)", "1 (x)", "null", "<< >>"}) {
                takes("BT " + (other + " " + op).trim() + " ET", false);
            }
        }
        for (String other : new String[] {"", "(x)", "1", "/A", "[ ] [ ]", "1 [ ]", "[ /A ]", "[ null ]", "[ true ]", "[ [ ] ]", "[ << >> ]", "[ 1 32768 ]",
            "[ -32769 1 ]", "[ (x) /A ]", "[ 1 (x) 2 null ]", "<< >>"}) {
            takes("BT " + (other + " TJ").trim() + " ET", false);
        }
        shows("BT [ -32768 32767 -32768.0 32767.9 ] TJ ET", 0);
    }

    /** What is beyond in operands is 5 at its first byte, what is no token 4. */
    private static void edgesOfOperands() {
        String[] beyond = {"2147483648", "-2147483649", "32768.0", "-32768.00001", "1.0000000000", "/" + "n".repeat(61), "(" + "s".repeat(2001) + ")",
            "<" + "41".repeat(2001) + ">"};
        for (String one : beyond) {
            wrong(one + " g", 5, 0);
            wrong("1 [ 2 " + one + " ] g", 5, 6);
            wrong("<< /A " + one + " >>", 5, 6);
        }
        wrong("<< /A 1 /A 2 >>", 5, 8);
        wrong("<< 99999999999 1 >>", 5, 3);
        wrong("<< (" + "s".repeat(2001) + ") 1 >>", 5, 3);
        wrong("[".repeat(20) + "<<", 5, 20);
        shows("[".repeat(20) + "7" + "]".repeat(20) + " 0 d", 0);
        shows("(" + "s".repeat(2000) + ") /" + "n".repeat(60) + " -2147483648 2147483647", 0);
        // The deepest is told for each object anew.
        shows("[".repeat(20) + "]".repeat(20) + "[".repeat(20) + "]".repeat(20), 0);
    }

    private static void fullOfOperands() {
        String forty = "1 ".repeat(40);
        for (String next : new String[] {"1", "-1.5", "/A", "(x)", "<41>", "[ ]", "<< >>", "true", "false", "null", ")", ">", "{", "}", "]", ">>", "/A#0", "(",
            "<4g>", "99999999999", "/" + "n".repeat(61), "[ )", "<< 1 >>"}) {
            wrong(forty + next, 11, 80);
            wrong(forty + " %x\n\r " + next, 11, 86);
        }
        wrong(forty + "m", 11, 80);
        shows(forty, 0);
        shows(forty + "% 1", 0);
        shows(forty + " \r\n", 0);
        // Parts are none that wait.
        shows("[ " + "1 ".repeat(50) + "] 0 d " + "/A ".repeat(38) + "[ " + "1 ".repeat(50) + "] << /A 1 >>", 0);
        String group = "1 ".repeat(39) + "/x ";
        wrong(group + "q", 11, 78 + 3);
        shows("1 g ".repeat(100), 0);
    }

    /** So many objects at a time; an operator takes them, and they count anew. */
    private static void objectsAtATime() {
        for (int more = 0; more <= 1; more++) {
            String zeros = "0 ".repeat(3990);
            String rest = "0 ".repeat(1996);
            String tail = "] 1 << /A [ 7 ] /B" + (more == 0 ? " 2 >> " : " [ ] >> ");
            // The array, 5986 parts, a whole, a dict, two names, an array and its part, and the last: 5994; then six more.
            String six = "1 1 1 1 1 1 ";
            String last = more == 0 ? "" : "8 ";
            House x = objects("[" + zeros, rest + tail + six + last + "W");
            int place = 1 + zeros.length() + 1 + rest.length() + tail.length() + six.length();
            Checks.due("6000 and " + more, x.show(0), more == 0 ? -111 : -105);
            Checks.due("the place of it", x.fault(3), place);
        }
        House y = objects("[" + "0 ".repeat(3990), "0 ".repeat(2008) + "] 0 d [" + "0 ".repeat(1800));
        Checks.due("an array that does not end", y.show(0), -104);
        House z = objects("[" + "0 ".repeat(3990), "0 ".repeat(2008) + "] 0 d [" + "0 ".repeat(1800) + "] 0 d");
        Checks.due("they count anew", z.show(0), 0);
        House w = objects("[" + "0 ".repeat(3990), "0 ".repeat(2009) + "] [ ]");
        Checks.due("they count together", w.show(0), -105);
        Checks.due("at that array", w.fault(3), 1 + 2 * 3990 + 1 + 2 * 2009 + 2);
    }

    private static House objects(String first, String second) {
        return Checks.loads("many objects", new Files().object(1, Files.CATALOG).object(2, Files.ONE_PAGE)
                .object(3, "<< /Type /Page /Parent 2 0 R /MediaBox [ 0 0 10 20 ] /Contents [ 4 0 R 5 0 R ] >>")
                .stream(4, "/Filter /FlateDecode", Files.deflated(first)).stream(5, "/Filter /FlateDecode", Files.deflated(second))
                .table("/Root 1 0 R"), 1);
    }

    private static void whatIsNoToken() {
        for (String bad : new String[] {")", ">", "{", "}", "]", ">>", "/A#", "/A#00", "(", "(a", "<4", "<4g>", "<4%\n>", "<< /A >>", "<< /A", "<<", "["}) {
            int place = bad.equals("<< /A >>") ? 6 : bad.equals("<< /A") ? 5 : bad.equals("<<") ? 2 : bad.equals("[") ? 1 : 0;
            wrong(bad, 4, place);
            wrong("1 g " + bad, 4, 4 + place);
        }
        for (String word : new String[] {"q", "BT", "x", "R", "obj", "1 0 R"}) {
            wrong("[ " + word + " ] 0 d", 4, word.equals("1 0 R") ? 6 : 2);
            wrong("<< /A " + word + " >> g", 4, word.equals("1 0 R") ? 8 : 6);
        }
        wrong("1 0 R", 11, 4);
        wrong("[ 1 ", 4, 4);
        wrong("<< /A 1 ", 4, 8);
        wrong("<< /A % ", 4, 8);
    }

    /** q keeps the matrix, the font, size, Tc, Tw, TL; Q brings all of them back. */
    private static void keptThings() {
        House x = shows("/F 10 Tf 1 Tc 2 Tw 3 TL 1 0 0 1 7 8 cm q 2 0 0 2 1 1 cm /G 20 Tf 4 Tc 5 Tw 6 TL"
                + " BT (A A) Tj T* (A) Tj ET Q BT (A A) Tj T* (A) Tj ET", 8);
        glyph("kept", x, 0, 'A', 8, 9, 20, 0);
        glyph("kept", x, 1, ' ', 8 + 28, 9, 20, 0);
        glyph("kept", x, 2, 'A', 8 + 28 + 18, 9, 20, 0);
        glyph("kept", x, 3, 'A', 8, -3, 20, 0);
        glyph("kept", x, 4, 'A', 7, 8, 10, 4);
        glyph("kept", x, 5, ' ', 13, 8, 10, 4);
        glyph("kept", x, 6, 'A', 16, 8, 10, 4);
        glyph("kept", x, 7, 'A', 7, 5, 10, 4);
        // The widths are those of the font that is brought back.
        House w = wide("/F 10 Tf q /G 10 Tf BT (AA) Tj ET Q BT (AA) Tj ET");
        Checks.due("widths within", w.glyph(1, 1), 10 * ONE);
        Checks.due("widths behind", w.glyph(3, 1), 5 * ONE);
        Checks.due("font within", w.glyph(1, 4), 6);
        Checks.due("font behind", w.glyph(3, 4), 4);
        House v = wide("/F 10 Tf q /G 10 Tf q /F 10 Tf Q BT (AA) Tj ET Q BT (AA) Tj ET");
        Checks.due("widths of the second", v.glyph(1, 1), 10 * ONE);
        Checks.due("widths of the first", v.glyph(3, 1), 5 * ONE);
        House u = shows("q q 2 0 0 2 0 0 cm Q Q 3 0 0 3 0 0 cm q Q BT /F 1 Tf 1 1 Td (A) Tj ET", 1);
        glyph("q in q", u, 0, 'A', 3, 3, 1, 4);
    }

    /** Two fonts of different widths: F of 500 for A and B, G of 1000 for A alone. */
    private static House wide(String contents) {
        House x = Checks.loads("two fonts", new Files().object(1, Files.CATALOG).object(2, Files.ONE_PAGE)
                .object(3, "<< /Type /Page /Parent 2 0 R /MediaBox [ 0 0 10 20 ] /Resources << /Font << /F 4 0 R /G 6 0 R >> >> >>")
                .object(4, "<< /Type /Font /FirstChar 65 /LastChar 66 /Widths [ 500 600 ] >>")
                .object(6, "<< /Type /Font /FirstChar 65 /LastChar 65 /Widths [ 1000 ] >>").table("/Root 1 0 R"), 1);
        Files.contents(x, 0, contents);
        Checks.due(contents + ": shown", x.show(0) >= 0, true);
        return x;
    }

    private static void edgesOfOrder() {
        shows("q ".repeat(20) + "Q ".repeat(20) + "q ".repeat(20) + "Q ".repeat(20), 0);
        wrong("q ".repeat(20) + "q", 12, 40);
        wrong("q ".repeat(20) + "Q q q", 12, 44);
        wrong("Q", 12, 0);
        wrong("q Q Q", 12, 4);
        for (String op : new String[] {"q", "Q", SIX + " cm", "BT"}) {
            wrong("BT " + op, 12, 3 + op.lastIndexOf(' ') + 1);
            wrong("q BT " + op, 12, 5 + op.lastIndexOf(' ') + 1);
        }
        for (String op : new String[] {"ET", "1 2 Td", "1 2 TD", SIX + " Tm", "T*", "() Tj", "() '", "[ ] TJ", "[ 1 ] TJ", "[ () ] TJ"}) {
            wrong(op, 12, op.lastIndexOf(' ') + 1);
            wrong("BT ET " + op, 12, 6 + op.lastIndexOf(' ') + 1);
        }
        for (String op : new String[] {"/F 1 Tf", "1 Tc", "1 Tw", "1 TL", "1 2 m", "W*", "[ ] 0 d", "h"}) {
            shows(op + " BT " + op + " ET " + op, 0);
        }
        wrong("BT", 12, 2);
        wrong("q BT ET ", 12, 8);
        wrong("q Q q%x", 12, 7);
        wrong("q BT", 12, 4);
        shows("q BT ET Q BT ET", 0);
    }

    /** Of more than one fault: 11, 12, 13, then as it goes on; what is read ahead goes ahead. */
    private static void whatGoesAhead() {
        wrong("1 Q", 11, 2);
        wrong("BT 1 q", 11, 5);
        wrong("1 Tj", 11, 2);
        wrong("(a) 1 Tj", 11, 6);
        wrong("(a) Tj", 12, 4);
        wrong("[ (a) ] TJ", 12, 8);
        wrong("(a) '", 12, 4);
        wrong("BT (a) '", 13, 7);
        wrong("BT -32768 TL (a) '", 13, 17);
        wrong("BT /F 1 Tf -32768 TL (a) '", 14, 25);
        wrong("BT [ 32767 32767 (a) ] TJ", 13, 23);
        wrong("/F 32767 Tf BT [ -32767 -32767 (a) ] TJ", 14, 37);
        wrong("/X 1 1 Tf", 11, 7);
        wrong("/X 32768 Tf", 11, 9);
        wrong("32767 0 0 1 0 0 cm 2 0 0 1 0 cm", 11, 29);
        wrong("BT 2 0 0 1 0 0 cm", 12, 15);
        wrong("/F 1 Tf BT (" + "A".repeat(1501) + ") '", 5, 1515);
        wrong("/F 1 Tf BT -32768 TL (" + "A".repeat(1501) + ") '", 14, 1525);
        // A token that is wrong is told where it is read, even if the operator behind it would be wrong.
        wrong("1 ) x", 4, 2);
        wrong("x )", 11, 0);
        wrong("BT )", 4, 3);
        wrong("q 99999999999", 5, 2);
    }

    private static void font(String font, int answer) {
        House x = house(font);
        Files.contents(x, 0, "/F 1 Tf");
        Checks.due("font " + font, x.show(0), answer);
        Checks.due("font " + font + ": place", x.fault(3), answer == 0 ? -1 : 5);
        House y = Checks.loads("a direct font", new Files().object(1, Files.CATALOG).object(2, Files.ONE_PAGE)
                .object(3, Files.PAGE.replace(" >>", " /Resources << /Font << /G " + font + " >> >> >>")).object(5, "1000").object(6, "4 0 R")
                .table("/Root 1 0 R"), 1);
        Files.contents(y, 0, "/G 1 Tf");
        Checks.due("direct font " + font, y.show(0), answer);
    }

    private static void edgesOfFonts() {
        String[] good = {"/FirstChar 0 /LastChar 0 /Widths [ 1 ]", "/FirstChar 255 /LastChar 255 /Widths [ 1 ]", "/FirstChar 7 /LastChar 8 /Widths [ -32768 32767 ]",
            "/FirstChar 7 /LastChar 8 /Widths [ -32768.0 .5 ]", "/FirstChar 65 /LastChar 65 /Widths [ 5 0 R ]"};
        for (String one : good) {
            font("<< /Type /Font " + one + " >>", 0);
        }
        String[] bad = {"/FirstChar -1 /LastChar 0 /Widths [ 1 1 ]", "/FirstChar 255 /LastChar 256 /Widths [ 1 1 ]", "/FirstChar 256 /LastChar 256 /Widths [ 1 ]",
            "/FirstChar 8 /LastChar 7 /Widths [ ]", "/FirstChar 8 /LastChar 8 /Widths [ ]", "/FirstChar 8 /LastChar 8 /Widths [ 1 1 ]",
            "/FirstChar 8 /LastChar 8 /Widths [ 32768 ]", "/FirstChar 8 /LastChar 8 /Widths [ -32769 ]", "/FirstChar 8 /LastChar 8 /Widths [ (1) ]",
            "/FirstChar 8 /LastChar 8 /Widths [ null ]", "/FirstChar 8 /LastChar 8 /Widths [ 9 0 R ]", "/FirstChar 8 /LastChar 8 /Widths [ 6 0 R ]",
            "/FirstChar 8 /LastChar 8 /Widths << /A 1 >>", "/FirstChar 8 /LastChar 8 /Widths 1", "/FirstChar 8 /LastChar 8 /Widths (1)",
            "/FirstChar 8 /LastChar 8.0 /Widths [ 1 ]", "/FirstChar 8.0 /LastChar 8 /Widths [ 1 ]", "/FirstChar true /LastChar true /Widths [ 1 ]",
            "/FirstChar null /LastChar 0 /Widths [ 1 ]", "/FirstChar 0 /LastChar null /Widths [ 1 ]", "/LastChar 0 /Widths [ 1 ]", "/FirstChar 0 /Widths [ 1 ]",
            "/FirstChar 0 /LastChar 0", "/FirstChar 0 /LastChar 0 /Widths null", "/FirstChar /A /LastChar 0 /Widths [ 1 ]", "/FirstChar (x) /LastChar 0 /Widths [ 1 ]",
            "/FirstChar 0 /LastChar [ 0 ] /Widths [ 1 ]", "/FirstChar 0 /LastChar 2147483647 /Widths [ 1 ]", "/FirstChar -2147483648 /LastChar 0 /Widths [ 1 ]"};
        for (String one : bad) {
            font("<< /Type /Font " + one + " >>", -113);
        }
        for (String type : new String[] {"/Fonts", "/Fon", "(Font)", "null", "5", "9 0 R", "/font"}) {
            font("<< /Type " + type + " /FirstChar 0 /LastChar 0 /Widths [ 1 ] >>", -113);
        }
        font("<< /FirstChar 0 /LastChar 0 /Widths [ 1 ] >>", -113);
        for (String resources : new String[] {"<< >>", "<< /Font null >>", "<< /Font 9 0 R >>", "<< /Font [ ] >>", "<< /Font 5 >>", "<< /Font << >> >>",
            "<< /Font << /F null >> >>", "<< /Font << /F 9 0 R >> >>", "<< /Font << /F 4 1 R >> >>", "<< /Font << /F 5 >> >>", "<< /Font << /f 4 0 R >> >>",
            "<< /Font << /F 7 0 R >> >>", "<< /Font 8 0 R >>", "<< /F 4 0 R >>", "null"}) {
            House x = Checks.loads("Resources " + resources, new Files().object(1, Files.CATALOG).object(2, Files.ONE_PAGE)
                    .object(3, Files.PAGE.replace(" >>", " /Resources " + resources + " >>"))
                    .object(4, "<< /Type /Font /FirstChar 65 /LastChar 65 /Widths [ 1 ] >>")
                    .stream(7, "/Type /Font /FirstChar 65 /LastChar 65 /Widths [ 1 ]", "").stream(8, "/F 4 0 R", "").table("/Root 1 0 R"), 1);
            Files.contents(x, 0, "/F 1 Tf");
            Checks.due("Resources " + resources, x.show(0), -113);
            Checks.due("Resources " + resources + ": place", x.fault(3), 5);
        }
    }

    /** A code outside of FirstChar .. LastChar has no width, also if another font gave it one before. */
    private static void widthsOfFonts() {
        House x = wide("/F 10 Tf BT (BB) Tj ET /G 10 Tf BT (BB) Tj ET BT (AA) Tj ET");
        Checks.due("B of F", x.glyph(1, 1), 6 * ONE);
        Checks.due("B of G", x.glyph(3, 1), 0);
        Checks.due("A of G", x.glyph(5, 1), 10 * ONE);
        House y = shows("/F 10 Tf BT (@ADC@) Tj ET", 5);
        glyph("@ and D have none", y, 1, 'A', 0, 0, 10, 4);
        glyph("A has one", y, 2, 'D', 5, 0, 10, 4);
        glyph("C has 1000", y, 4, '@', 15, 0, 10, 4);
        House large = shows("/F 32767 Tf BT (@D@D@) Tj ET", 5);
        Checks.due("none at all", large.glyph(4, 1), 0);
        House row = Checks.loads("rows", new Files().object(1, Files.CATALOG).object(2, Files.ONE_PAGE)
                .object(3, "<< /Type /Page /Parent 2 0 R /MediaBox [ 0 0 10 20 ] /Resources << /Font << /F 6 0 R >> >> >>")
                .object(4, "<< /Type 7 0 R /FirstChar 8 0 R /LastChar 9 0 R /Widths 10 0 R >>").object(6, "5 0 R").object(5, "4 0 R")
                .object(7, "/Font").object(8, "65").object(9, "8 0 R").object(10, "[ 11 0 R ]").object(11, "12 0 R").object(12, "-250")
                .table("/Root 1 0 R"), 1);
        Files.contents(row, 0, "/F -4 Tf BT (AA) Tj ET");
        Checks.due("all by references", row.show(0), 2);
        glyph("all by references", row, 1, 'A', 1, 0, -4, 4);
    }

    private static void units(String contents, int glyph, int left, int up) {
        House x = shows(contents, glyph + 1);
        Checks.due(contents + ": x", x.glyph(glyph, 1), left);
        Checks.due(contents + ": y", x.glyph(glyph, 2), up);
    }

    /** Of two nearest the greater: halves of products and of moves, on both sides of 0. */
    private static void nearest() {
        String unit = ".0000153";
        for (int many = -5; many <= 5; many++) {
            String far = many == 0 ? "0" : String.format("%s.%09d", many < 0 ? "-" : "", Math.abs(many) * 15259L);
            int half = Math.floorDiv(many + 1, 2);
            units("/F 0 Tf .5 0 0 .5 0 0 cm BT " + far + " " + far + " Td (A) Tj ET", 0, half, half);
            units("/F 0 Tf 0 .5 .5 0 0 0 cm BT " + far + " " + far + " Td (A) Tj ET", 0, half, half);
            // Each product by itself: two halves make a whole unit more.
            units("/F 0 Tf .5 .5 .5 .5 0 0 cm BT " + far + " " + far + " Td (A) Tj ET", 0, 2 * half, 2 * half);
        }
        // 32767 units times one are less than half of one, as are 102721 times 319 of 65536000.
        units("/F 0 Tf .499985 0 0 .499985 0 0 cm BT " + unit + " -" + unit + " Td (A) Tj ET", 0, 0, 0);
        units("/F 0 Tf .500016 0 0 .500016 0 0 cm BT " + unit + " -" + unit + " Td (A) Tj ET", 0, 1, -1);
        House less = house("<< /Type /Font /FirstChar 65 /LastChar 65 /Widths [ 1.567398071 ] >>");
        Files.contents(less, 0, "/F .004867554 Tf BT (AA) Tj ET");
        Checks.due("less than half of one", less.show(0), 2);
        Checks.due("the size", less.glyph(1, 3), 319);
        Checks.due("is none", less.glyph(1, 1), 0);
        Checks.due("one unit", shows("/F " + unit + " Tf BT (A) Tj ET", 1).glyph(0, 3), 1);
        // The width 500 of a size of one unit is half a unit; of minus one unit, too.
        units("/F " + unit + " Tf BT (AA) Tj ET", 1, 1, 0);
        units("/F -" + unit + " Tf BT (AA) Tj ET", 1, 0, 0);
        units("/F " + unit + " Tf BT [ -500 (A) ] TJ ET", 0, 1, 0);
        units("/F " + unit + " Tf BT [ 500 (A) ] TJ ET", 0, 0, 0);
        units("/F " + unit + " Tf BT [ -499 (A) ] TJ ET", 0, 0, 0);
        units("/F " + unit + " Tf BT [ 501 (A) ] TJ ET", 0, -1, 0);
        units("/F " + unit + " Tf BT [ -1499 (A) -1500 (A) ] TJ ET", 1, 4, 0);
        // Tc and Tw come behind the nearest of the width.
        House more = shows("/F " + unit + " Tf " + unit + " Tc " + unit + " Tw BT (A A) Tj ET", 3);
        Checks.due("behind A and Tc", more.glyph(1, 1), 2);
        Checks.due("behind a blank, Tc and Tw", more.glyph(2, 1), 4);
    }

    /** Each of the six of a product, at the last that is allowed and at the first beyond, on either side. */
    private static void edgesOfProducts() {
        String[] ones = {"1 0 0 0 0 0", "0 1 0 0 0 0", "0 0 1 0 0 0", "0 0 0 1 0 0", "0 0 0 0 1 0", "0 0 0 0 0 1"};
        for (int i = 0; i < 6; i++) {
            // 16384 * 2 is one too many; -16384 * 2 is just the least; one unit less is beyond.
            product(ones[i].replace("1", "16384"), "2 0 0 2 0 0", true);
            product(ones[i].replace("1", "-16384"), "2 0 0 2 0 0", false);
            product(ones[i].replace("1", "16383.99999"), "2 0 0 2 0 0", false);
            product(ones[i].replace("1", "-16384.00002"), "2 0 0 2 0 0", true);
            product(ones[i].replace("1", "32767.99999"), "1 0 0 1 0 0", false);
            product(ones[i].replace("1", "-32768"), "1 0 0 1 0 0", false);
            product(ones[i].replace("1", "-32768"), "-1 0 0 -1 0 0", true);
        }
        // e and f of the other one come to those: 1 and 32767 are one too many.
        product("1 0 0 1 1 0", "1 0 0 1 32767 0", true);
        product("1 0 0 1 0 1", "1 0 0 1 0 32767", true);
        product("1 0 0 1 -1 0", "1 0 0 1 -32767 0", false);
        product("1 0 0 1 0 -1", "1 0 0 1 0 -32767.00002", true);
        // A sum within, of parts that are beyond.
        product("2 2 0 0 0 0", "32767 0 -32767 0 0 0", false);
        product("0 0 0 0 2 2", "32767 0 -32767 0 0 0", false);
        product("2 2 0 0 0 0", "32767 0 32767 0 0 0", true);
    }

    /** The first matrix is the operand, the second one is CTM already. */
    private static void product(String left, String right, boolean far) {
        String contents = right + " cm " + left + " cm";
        if (far) {
            wrong(contents, 14, contents.length() - 2);
        } else {
            shows(contents, 0);
        }
    }

    private static void edgesOfMoves() {
        shows("BT 32767 32767 Td ET", 0);
        shows("BT -32768 -32768 Td ET", 0);
        wrong("BT 32767 0 Td 1 0 Td", 14, 18);
        wrong("BT 0 32767 Td 0 1 Td", 14, 18);
        shows("BT 32767 0 Td .99998 0 Td ET", 0);
        wrong("BT -32768 0 Td -.00002 0 Td", 14, 25);
        wrong("BT 0 -32768 TD", 14, 12);
        wrong("BT 0 -32768.0 TD", 14, 14);
        shows("BT 0 -32767.99999 TD ET", 0);
        shows("BT 0 32767 TD ET", 0);
        wrong("BT 0 32767 TD 0 TL 0 1 Td", 14, 23);
        // TL is 32768 less one unit: T* goes as far down, and back up with minus as much.
        shows("BT 32767.99999 TL T* ET", 0);
        wrong("BT 32767.99999 TL T* T*", 14, 21);
        shows("BT -32767.99999 TL T* ET", 0);
        wrong("BT -32767.99999 TL T* T*", 14, 22);
        wrong("BT -32768 TL T*", 14, 13);
        wrong("BT -32768.0 TL T*", 14, 15);
        wrong("/F 1 Tf BT -32768.0 TL () '", 14, 26);
        shows("-32768 TL BT ET", 0);
        // TD sets TL, though it is beyond what it goes to then.
        House x = shows("/F 1 Tf BT 1 -5 TD T* (A) Tj ET BT T* (A) Tj ET", 2);
        glyph("TD and T*", x, 0, 'A', 1, -10, 1, 4);
        glyph("TL stays", x, 1, 'A', 0, -5, 1, 4);
        wrong("BT 32767 0 0 1 0 0 Tm 1 0 Td 1 0 Td", 14, 33);
        wrong("BT 1 0 0 1 0 0 Tm 1 32767 0 1 0 0 Tm 1 0 Td 1 0 Td", 14, 48);
    }

    /** The glyph's product, and the move behind it. */
    private static void edgesOfGlyphs() {
        String font = "/F 32767 Tf ";
        // A has the width 500: 16383.5; the third move is beyond.
        shows(font + "BT (AA) Tj ET", 2);
        wrong(font + "BT (AAA) Tj", 14, 21);
        wrong(font + "BT (AA) Tj (A) Tj", 14, 27);
        shows(font + "BT (A) Tj 0 0 Td (A) Tj ET", 2);
        // The sum of t: 32767 for C, and Tc, and Tw of a blank.
        shows("/F 32767 Tf .99998 Tc BT (C) Tj ET", 1);
        wrong("/F 32767 Tf 1 Tc BT (C) Tj", 14, 24);
        shows("/F 0 Tf 32767 Tc .99998 Tw BT ( ) Tj ET", 1);
        wrong("/F 0 Tf 32767 Tc 1 Tw BT ( ) Tj", 14, 29);
        shows("/F 0 Tf 32767 Tc 1 Tw BT (A) Tj ET", 1);
        shows("/F 0 Tf -32768 Tc 0 Tw BT ( ) Tj ET", 1);
        wrong("/F 0 Tf -32768 Tc -.00002 Tw BT ( ) Tj", 14, 36);
        shows("/F 32767 Tf -32768 Tc 32767 Tw BT (A) Tj ( ) Tj ET", 2);
        shows("/F 32767 Tf -32767 Tc BT (CCCC) Tj ET", 4);
        // The width of C at -32768 times 1000 .. the least; for numbers of TJ, too.
        shows("/F -32768 Tf BT (C) Tj ET", 1);
        wrong("/F -32768 Tf BT (CA) Tj", 14, 21);
        shows("/F 32767 Tf BT [ -1000 ] TJ ET", 0);
        wrong("/F 32767 Tf BT [ -1001 ] TJ", 14, 25);
        shows("/F -32768 Tf BT [ -1000 ] TJ ET", 0);
        wrong("/F -32768 Tf BT [ -1000 -1 ] TJ", 14, 29);
        wrong("/F -32768 Tf BT [ 1000 ] TJ", 14, 25);
        // All six of TM's product with CTM, though only two of them are the place.
        for (String tm : new String[] {"16384 0 0 1 0 0", "0 16384 0 1 0 0", "1 0 16384 0 0 0", "1 0 0 16384 0 0", "1 0 0 1 16384 0", "1 0 0 1 0 16384"}) {
            wrong("/F 1 Tf 2 0 0 2 0 0 cm BT " + tm + " Tm (A) Tj", 14, 26 + tm.length() + 8);
            shows("/F 1 Tf 2 0 0 2 0 0 cm BT " + tm.replace("16384", "16383.99") + " Tm (A) Tj ET", 1);
        }
        // A place that is too far is told ahead of the move, and no glyph stays.
        Checks.due("none stays", shows("/F 1 Tf BT (A) Tj 32767 Tc (AAA) Tj", -114).glyph(0, 0), -1);
        wrong("/F 0 Tf BT (" + "A".repeat(1501) + ") Tj", 5, 1515);
        wrong("/F 0 Tf BT [ (" + "A".repeat(1500) + ") 5 () (A) ] TJ", 5, 1527);
        shows("/F 0 Tf BT [ (" + "A".repeat(1500) + ") 5 () ] TJ ET", 1500);
        wrong("/F 1 Tf 32767 Tc BT (" + "A".repeat(1500) + ") Tj", 14, 1523);
    }

    private static void remarksAndWhite() {
        shows("1%x\rg%y\n1\0g\f1\tg\r\n%", 0);
        shows("%", 0);
        shows("\0\t\n\f\r ", 0);
        wrong("%x\nx", 11, 3);
        shows("[(%)%]\n] 0 d", 0);
        shows("[/A(x)<41>1]0 d", 0);
        wrong("1g", 11, 0);
        shows("BT/F 1 Tf(A)Tj[(A)1<41>]TJ ET", 3);
        shows("BT/F 1 Tf(A)' ET", 1);
    }

    /** The pieces of contents have one byte between: a token ends there. */
    private static void severalStreams() {
        House x = Checks.loads("pieces", new Files().object(1, Files.CATALOG).object(2, Files.ONE_PAGE)
                .object(3, "<< /Type /Page /Parent 2 0 R /MediaBox [ 0 0 10 20 ] /Contents [ 4 0 R 5 0 R 6 0 R 4 0 R ] >>")
                .stream(4, "", "1 ").stream(5, "", "g %").stream(6, "", "").table("/Root 1 0 R"), 1);
        Checks.due("pieces: bytes", x.page(0, 6), 10);
        Checks.due("pieces: show", x.show(0), 0);
        House y = Checks.loads("a row in two pieces", new Files().object(1, Files.CATALOG).object(2, Files.ONE_PAGE)
                .object(3, "<< /Type /Page /Parent 2 0 R /MediaBox [ 0 0 10 20 ] /Contents [ 4 0 R 5 0 R ] >>")
                .stream(4, "", "1 r").stream(5, "", "g").table("/Root 1 0 R"), 1);
        Checks.due("a row in two pieces: show", y.show(0), -111);
        Checks.due("a row in two pieces: place", y.fault(3), 2);
        House z = Checks.loads("a string in two pieces", new Files().object(1, Files.CATALOG).object(2, Files.ONE_PAGE)
                .object(3, "<< /Type /Page /Parent 2 0 R /MediaBox [ 0 0 10 20 ] /Contents [ 4 0 R 5 0 R ] /Resources << /Font << /F 6 0 R >> >> >>")
                .stream(4, "", "/F 1 Tf BT (a").stream(5, "", "b) Tj ET").object(6, FONT.replace(" 5 0 R", " 1")).table("/Root 1 0 R"), 1);
        Checks.due("a string in two pieces: show", z.show(0), 3);
        Checks.due("the byte between", z.glyph(1, 0), 10);
        String zeros = Files.deflated("S ".repeat(4000));
        House full = Checks.loads("full contents", new Files().object(1, Files.CATALOG).object(2, Files.ONE_PAGE)
                .object(3, "<< /Type /Page /Parent 2 0 R /MediaBox [ 0 0 10 20 ] /Contents [ 4 0 R 4 0 R 4 0 R 4 0 R 5 0 R ] >>")
                .stream(4, "/Filter /FlateDecode", zeros).stream(5, "/Filter /FlateDecode", Files.deflated("S ".repeat(3997) + "x ")).table("/Root 1 0 R"), 1);
        Checks.due("full contents: bytes", full.page(0, 6), 40000);
        Checks.due("full contents: show", full.show(0), -111);
        Checks.due("full contents: place", full.fault(3), 39998);
    }

    /** Contents of many thousand objects, and pages shown many times, with operands that wait at the end. */
    private static void shownOften() {
        String zeros = "[" + "0 ".repeat(3990) + "]0 d ";
        String file = new Files().object(1, Files.CATALOG).object(2, Files.ONE_PAGE)
                .object(3, "<< /Type /Page /Parent 2 0 R /MediaBox [ 0 0 10 20 ] /Contents [ 4 0 R 4 0 R 4 0 R 4 0 R 5 0 R ] >>")
                .stream(4, "/Filter /FlateDecode", Files.deflated(zeros))
                .stream(5, "/Filter /FlateDecode", Files.deflated("[" + "(x)".repeat(1300) + "/A ".repeat(1300) + "]")).table("/Root 1 0 R");
        House x = Checks.loads("many objects", file, 1);
        for (int i = 0; i < 12; i++) {
            Checks.due("shown " + i, x.show(0), 0);
            Checks.due("turned " + i, x.turn(0, 90 * (i % 4)), true);
        }
        for (int i = 0; i < 12; i++) {
            Files.load(x, file);
            Checks.due("loaded and shown " + i, x.show(0), 0);
        }
        Checks.due("insert", x.insert(0, 1, 1), 6);
        x.whole();
        x.take();
        Checks.due("it loads", x.load(), 2);
        House y = Checks.loads("many letters", new Files().object(1, Files.CATALOG).object(2, Files.ONE_PAGE)
                .object(3, "<< /Type /Page /Parent 2 0 R /MediaBox [ 0 0 10 20 ] /Contents [ 4 0 R 4 0 R 4 0 R 4 0 R ] >>")
                .stream(4, "/Filter /FlateDecode", Files.deflated("[" + ("(" + "x".repeat(1990) + ")").repeat(4) + "]")).table("/Root 1 0 R"), 1);
        for (int i = 0; i < 8; i++) {
            Checks.due("letters shown " + i, y.show(0), 0);
        }
    }

    /** What one page left open has no part in the next one; the glyphs are those of the page shown last. */
    private static void shownAgain() {
        House x = house(FONT);
        x.insert(1, 5, 5);
        Files.contents(x, 0, "/F 2 Tf 3 Tc 4 Tw 5 TL 2 0 0 2 7 7 cm q BT 9 9 Td (A) Tj 1 2 3");
        Files.contents(x, 1, "BT ET");
        Checks.due("left open", x.show(0), -112);
        Checks.due("then another", x.show(1), 0);
        Checks.due("its fault", x.fault(2), 0);
        Checks.due("its place", x.fault(3), -1);
        Files.contents(x, 0, "/F 2 Tf 3 Tc 4 Tw 5 TL 2 0 0 2 7 7 cm BT 9 9 Td (AB) Tj ET 1 2 3");
        Checks.due("two glyphs", x.show(0), 2);
        Files.contents(x, 1, "BT (A) Tj ET");
        Checks.due("the font is gone", x.show(1), -113);
        Checks.due("so are the glyphs", x.glyph(0, 0), -1);
        Files.contents(x, 1, "Q");
        Checks.due("nothing is kept", x.show(1), -112);
        Files.contents(x, 1, "ET");
        Checks.due("no BT is open", x.show(1), -112);
        Files.contents(x, 1, "w");
        Checks.due("no operand waits", x.show(1), -111);
        Files.contents(x, 0, "BT /F 0 Tf (A) Tj T* (A A) Tj ET");
        Checks.due("four glyphs", x.show(0), 4);
        glyph("all is as at the beginning", x, 1, 'A', 0, 0, 0, 4);
        glyph("all is as at the beginning", x, 3, 'A', 0, 0, 0, 4);
        Checks.due("none such", x.show(2), -1);
        Checks.due("they stay", x.glyph(3, 0), 'A');
        Checks.due("insert", x.insert(0, 5, 5) > 0, true);
        Checks.due("they stay behind insert", x.glyph(3, 0), 'A');
        Checks.due("move", x.move(1, 0) > 0, true);
        Checks.due("they stay behind move", x.glyph(3, 0), 'A');
        Checks.due("turn", x.turn(0, 90), true);
        Checks.due("they stay behind turn", x.glyph(3, 0), 'A');
        Checks.due("info", Files.info(x, 0, "t") > 0, true);
        Checks.due("they stay behind info", x.glyph(3, 0), 'A');
        Checks.due("contents", Files.contents(x, 0, "ET") > 0, true);
        Checks.due("they stay behind contents", x.glyph(3, 0), 'A');
        Checks.due("whole and more", x.whole() > 0 && x.more() > 0, true);
        Checks.due("they stay behind writing", x.glyph(3, 0), 'A');
        x.delete(0);
        Checks.due("they stay behind delete", x.glyph(3, 0), 'A');
        Checks.due("so does the fault", x.fault(2) * 10 + x.fault(3), -1);
        for (int i : new int[] {-2147483648, -1, 4, 1499, 1500, 2147483647}) {
            for (int what = 0; what < 5; what++) {
                Checks.due("glyph " + i, x.glyph(i, what), -1);
            }
        }
        for (int what : new int[] {-2147483648, -1, 5, 2147483647}) {
            Checks.due("glyph of " + what, x.glyph(0, what), -1);
        }
    }
}
