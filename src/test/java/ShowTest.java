/** Promises 5, 17 and 18: a page is shown. */
public final class ShowTest {
    private static final String FONT = "<< /Type /Font /FirstChar 65 /LastChar 67 /Widths [ 500 250.5 5 0 R ] >>";
    private static final int ONE = 65536;

    public static void main(String[] args) {
        strings();
        matrices();
        keeping();
        lines();
        nothings();
        operands();
        manyOperands();
        tokens();
        order();
        fonts();
        fontObjects();
        far();
        farTexts();
        manyGlyphs();
        theAnswers();
        Checks.end();
    }

    private static PaperHouse house(String font) {
        return Checks.loads("a house", new Files().object(1, Files.CATALOG).object(2, Files.ONE_PAGE)
                .object(3, "<< /Type /Page /Parent 2 0 R /MediaBox [ 0 0 10 20 ] /Resources << /Font << /F 4 0 R /G " + FONT
                        + " >> >> >>").object(4, font).object(5, "1000").object(6, "4 0 R").stream(7, "", "").table("/Root 1 0 R"), 1);
    }

    private static PaperHouse shows(String contents, int glyphs) {
        PaperHouse x = house(FONT);
        Files.contents(x, 0, contents);
        Checks.due(contents + ": show", x.show(0), glyphs);
        Checks.due(contents + ": fault(2)", x.fault(2), glyphs < 0 ? -100 - glyphs : 0);
        if (glyphs >= 0) {
            Checks.due(contents + ": fault(3)", x.fault(3), -1);
            Checks.due(contents + ": one more", x.glyph(glyphs, 0), -1);
        } else {
            Checks.due(contents + ": no glyph", x.glyph(0, 0), -1);
        }
        return x;
    }

    private static void wrong(String contents, int fault, int place) {
        Checks.due(contents + ": fault(3)", shows(contents, -100 - fault).fault(3), place);
    }

    private static void glyph(String what, PaperHouse x, int i, int code, double left, double up, double size, int font) {
        Checks.due(what + ": code of " + i, x.glyph(i, 0), code);
        Checks.due(what + ": x of " + i, x.glyph(i, 1), Math.round(left * ONE));
        Checks.due(what + ": y of " + i, x.glyph(i, 2), Math.round(up * ONE));
        Checks.due(what + ": size of " + i, x.glyph(i, 3), Math.round(size * ONE));
        Checks.due(what + ": font of " + i, x.glyph(i, 4), font);
    }

    private static void strings() {
        PaperHouse x = shows("/F 10 Tf 1 Tc 2 Tw BT 5 7 Td (A CB\\377) Tj ET", 5);
        glyph("strings", x, 0, 'A', 5, 7, 10, 4);
        glyph("strings", x, 1, ' ', 11, 7, 10, 4);
        glyph("strings", x, 2, 'C', 14, 7, 10, 4);
        glyph("strings", x, 3, 'B', 25, 7, 10, 4);
        glyph("strings", x, 4, 255, 28.505, 7, 10, 4);
        PaperHouse y = shows("BT /G -2 Tf [ (A) 500 (A) -1000.0 () (A) ] TJ ET", 3);
        glyph("pieces", y, 0, 'A', 0, 0, -2, 0);
        glyph("pieces", y, 1, 'A', 0, 0, -2, 0);
        glyph("pieces", y, 2, 'A', -3, 0, -2, 0);
        shows("BT /F 10 Tf () Tj [ ] TJ ET", 0);
        shows("BT [ 5 6 ] TJ ET", 0);
    }

    private static void matrices() {
        PaperHouse x = shows("2 0 0 3 10 20 cm BT /F 4 Tf 1 0 .5 1 1 2 Tm (AA) Tj 1 1 Td (A) Tj ET", 3);
        glyph("matrices", x, 0, 'A', 12, 26, 4, 4);
        glyph("matrices", x, 1, 'A', 16, 26, 4, 4);
        glyph("matrices", x, 2, 'A', 15, 29, 4, 4);
        PaperHouse y = shows("1 0 0 1 5 0 cm 0 1 -1 0 0 0 cm BT /F 2 Tf 3 4 Td (AA) Tj ET", 2);
        glyph("turned", y, 0, 'A', 1, 3, 2, 4);
        glyph("turned", y, 1, 'A', 1, 4, 2, 4);
        // 1/65536 times one half is nearest to the greater of 0 and 1, and of -1 and 0.
        PaperHouse z = shows(".5 0 0 .5 0 0 cm BT /F 0 Tf .0000153 -.0000153 Td (A) Tj ET", 1);
        Checks.due("half a unit", z.glyph(0, 1), 1);
        Checks.due("minus half a unit", z.glyph(0, 2), 0);
        // 250.5 times 1/65536 a thousandth of: less than half a unit; 500.. at size 1.0 is half of one.
        PaperHouse w = shows("BT /F .002 Tf (A) Tj (A) Tj ET", 2);
        Checks.due("a small width", w.glyph(1, 1), 66);
    }

    private static void keeping() {
        PaperHouse x = shows("/F 10 Tf 1 Tc q 2 0 0 2 0 0 cm /G 5 Tf 3 Tc BT (AA) Tj ET Q BT (AA) Tj ET", 4);
        glyph("within", x, 1, 'A', 11, 0, 5, 0);
        glyph("behind", x, 3, 'A', 6, 0, 10, 4);
        shows(Files.repeat("q ", 20) + Files.repeat("Q ", 20), 0);
        wrong(Files.repeat("q ", 21), 12, 40);
        wrong("q Q Q", 12, 4);
        wrong("q /F 1 Tf Q BT (A) Tj ET", 13, 19);
    }

    private static void lines() {
        PaperHouse x = shows("BT /F 10 Tf 1 2 Td 3 -4 TD (A) Tj T* (A) Tj 7 TL T* (A) Tj (A) ' ET BT (A) Tj T* (A) Tj ET", 6);
        glyph("TD", x, 0, 'A', 4, -2, 10, 4);
        glyph("T*", x, 1, 'A', 4, -6, 10, 4);
        glyph("TL", x, 2, 'A', 4, -13, 10, 4);
        glyph("'", x, 3, 'A', 4, -20, 10, 4);
        glyph("BT again", x, 4, 'A', 0, 0, 10, 4);
        glyph("TL stays", x, 5, 'A', 0, -7, 10, 4);
    }

    private static void nothings() {
        shows("1 2 m 3 4 l 1 2 3 4 5 6 c 1 2 3 4 v 1 2 3 4 y 1 2 3 4 re h S s f F f* B B* b b* n W W*", 0);
        shows("1 w 0 J 0 j 10 M 1 i .5 g .5 G 1 0 0 rg 0 0 1 RG 0 0 0 1 k 0 0 0 1 K [ 3 (x) /A [ << >> ] ] 0 d", 0);
        shows("BT 1 2 m S ET %no (more\rBT ET", 0);
        shows("", 0);
        shows("1 2 (waiting) /A [ ] << /A 1 >> true null", 0);
    }

    private static void operands() {
        for (String op : new String[] {"1 m", "1 2 3 m", "1 /A m", "1 (2) l", "1 2 3 4 5 c", "1 h", "S1", "x", "BI", "Do", "\"",
            "1 2 TL", "Tc", "/A Tc", "1 2 q", "1 BT", "BX", "Tfx", "true g", "null g", "32768 g", "-32769 g", "[ 1 ] 2 3 d",
            "1 [ ] d", "1 2 d", "[ ] /A d", "/F Tf", "/F /F Tf", "1 /F Tf", "(F) 1 Tf", "BT (a) (b) Tj", "BT /a Tj",
            "BT [ /A ] TJ", "BT [ [ ] ] TJ", "BT [ 32768 ] TJ", "BT (a) TJ", "BT [ ] Tj", "BT 1 Td", "BT 1 2 3 4 5 Tm",
            "R", "1 0 R", "f**", "W*x"}) {
            wrong(op, 11, Math.max(0, op.lastIndexOf(' ') + 1));
        }
        shows("-32768 g 32767 g 32767.9 g", 0);
    }

    private static void manyOperands() {
        String forty = Files.repeat("1 ", 40);
        wrong(forty + "1", 11, 80);
        wrong(forty + " )", 11, 81);
        wrong(forty + "%x\n[", 11, 83);
        wrong(forty + "m", 11, 80);
        wrong(forty + "x", 11, 80);
        wrong(forty + "null", 11, 80);
        shows(forty, 0);
        shows(forty + " %1", 0);
        String zeros = Files.repeat("0 ", 3900);
        PaperHouse x = house(FONT);
        for (int more = 0; more <= 2; more++) {
            Files.load(x, new Files().object(1, Files.CATALOG).object(2, Files.ONE_PAGE)
                    .object(3, "<< /Type /Page /Parent 2 0 R /MediaBox [ 0 0 10 20 ] /Contents [ 4 0 R 5 0 R ] >>")
                    .stream(4, "/Filter /FlateDecode", Files.deflated("[" + zeros))
                    .stream(5, "/Filter /FlateDecode", Files.deflated(Files.repeat("0 ", 2098 + more) + "] 0 d [ 1 ] 0 d"))
                    .table("/Root 1 0 R"));
            // The array, 3900 and 2098 parts and the number behind it are 6000.
            Checks.due("6000 and " + more, x.show(0), more == 0 ? 0 : -105);
            Checks.due("its place", x.fault(3), more == 0 ? -1 : 7801 + 1 + 2 * 2098 + (more == 1 ? 4 : 2));
        }
    }

    private static void tokens() {
        wrong("1 )", 4, 2);
        wrong("[ 1", 4, 3);
        wrong("(a", 4, 0);
        wrong("[ 1 0 R ]", 4, 6);
        wrong("[ q ]", 4, 2);
        wrong("<< /A 1 /A 2 >>", 5, 8);
        wrong("12345678901 g", 5, 0);
        wrong("]", 4, 0);
        wrong(">>", 4, 0);
        wrong(Files.repeat("[", 21), 5, 20);
        wrong("/A#0 g", 4, 0);
        wrong("/" + Files.repeat("A", 61), 5, 0);
    }

    private static void order() {
        wrong("BT BT", 12, 3);
        wrong("ET", 12, 0);
        wrong("BT ET ET", 12, 6);
        wrong("BT q", 12, 3);
        wrong("q BT Q", 12, 5);
        wrong("BT 1 0 0 1 0 0 cm", 12, 15);
        wrong("BT ", 12, 3);
        wrong("q", 12, 1);
        wrong("q (x) ", 12, 6);
        for (String op : new String[] {"1 2 Td", "1 2 TD", "1 0 0 1 0 0 Tm", "T*", "(a) Tj", "(a) '", "[ (a) ] TJ"}) {
            wrong(op, 12, Math.max(0, op.lastIndexOf(' ') + 1));
        }
        wrong("1 Tj", 11, 2);
        wrong("/F 1 Tf 1 Tc 1 Tw 1 TL ET", 12, 23);
    }

    private static void fonts() {
        wrong("BT (a) Tj", 13, 7);
        wrong("BT () Tj", 13, 6);
        wrong("BT (a) '", 13, 7);
        wrong("BT -32768.0 TL (a) '", 13, 19);
        wrong("BT [ 32767 (a) ] TJ", 13, 17);
        wrong("/H 1 Tf", 13, 5);
        String[] bad = {"<< >>", "[ ]", "<< /Type /Fon /FirstChar 65 /LastChar 65 /Widths [ 1 ] >>",
            "<< /Type /Font /LastChar 65 /Widths [ 1 ] >>", "<< /Type /Font /FirstChar 65 /Widths [ 1 ] >>",
            "<< /Type /Font /FirstChar 65 /LastChar 65 >>", "<< /Type /Font /FirstChar 65 /LastChar 65 /Widths 1 >>",
            "<< /Type /Font /FirstChar 65 /LastChar 64 /Widths [ ] >>", "<< /Type /Font /FirstChar -1 /LastChar 0 /Widths [ 1 1 ] >>",
            "<< /Type /Font /FirstChar 255 /LastChar 256 /Widths [ 1 1 ] >>", "<< /Type /Font /FirstChar 65 /LastChar 65 /Widths [ 1 1 ] >>",
            "<< /Type /Font /FirstChar 65 /LastChar 66 /Widths [ 1 ] >>", "<< /Type /Font /FirstChar 65 /LastChar 65 /Widths [ /A ] >>",
            "<< /Type /Font /FirstChar 65 /LastChar 65 /Widths [ 32768 ] >>", "<< /Type /Font /FirstChar 65.0 /LastChar 65 /Widths [ 1 ] >>",
            "<< /Type /Font /FirstChar 65 /LastChar 65 /Widths [ 1 ] /Length 0 >> stream\n\nendstream", "null"};
        for (String font : bad) {
            PaperHouse x = house(font);
            Files.contents(x, 0, "/F 1 Tf");
            Checks.due("font " + font, x.show(0), -113);
        }
        PaperHouse all = house("<< /Type /Font /FirstChar 0 /LastChar 255 /Widths [ " + Files.repeat("7 ", 256) + "] >>");
        Files.contents(all, 0, "/F 1000 Tf BT (\\000\\377) Tj ET");
        Checks.due("256 widths", all.show(0), 2);
        Checks.due("the width of 0", all.glyph(1, 1), 7 * ONE);
        PaperHouse none = Checks.loads("no Resources", Files.paged().table("/Root 1 0 R"), 1);
        Files.contents(none, 0, "/F 1 Tf");
        Checks.due("no Resources: show", none.show(0), -113);
    }

    private static void fontObjects() {
        String font = FONT.replace(" 5 0 R", " 1");
        PaperHouse x = Checks.loads("rows", new Files().object(1, Files.CATALOG)
                .object(2, Files.ONE_PAGE.replace("/Count", "/Resources 5 0 R /Count"))
                .object(3, Files.PAGE).object(4, font).object(5, "<< /Font 6 0 R >>").object(6, "<< /F 7 0 R >>")
                .object(7, "4 0 R").table("/Root 1 0 R"), 1);
        Files.contents(x, 0, "/F 1 Tf BT (A) Tj ET");
        Checks.due("rows: show", x.show(0), 1);
        Checks.due("the last object's number", x.glyph(0, 4), 4);
    }

    private static void far() {
        wrong("32767 0 0 1 0 0 cm 2 0 0 1 0 0 cm", 14, 31);
        wrong("1 0 0 32767 0 0 cm 1 0 0 2 0 0 cm", 14, 31);
        wrong("1 0 0 1 0 -32768 cm 1 0 0 1 0 -.000007 cm 1 0 0 1 0 -.00002 cm", 14, 60);
        shows("32767 0 0 1 0 0 cm 1 0 0 32767 -32768 32767 cm".replace("-32768", "-1"), 0);
    }

    private static void farTexts() {
        wrong("BT 32767 0 Td 1 0 Td", 14, 18);
        wrong("BT 0 -32768 TD", 14, 12);
        wrong("BT -32768 TL T*", 14, 13);
        wrong("/F 1 Tf BT -32768 TL (A) '", 14, 25);
        wrong("2 0 0 1 0 0 cm /F 1 Tf BT 32767 0 Td (A) Tj", 14, 41);
        wrong("2 0 0 2 0 0 cm /F 1 Tf BT 1 0 0 32767 0 0 Tm (A) Tj", 14, 49);
        wrong("/F 32767 Tf BT (AAA) Tj", 14, 21);
        wrong("/F 32767 Tf 32767 Tc BT (A) Tj", 14, 28);
        wrong("/F 32767 Tf BT [ -32767 ] TJ", 14, 26);
        wrong("/F 32767 Tf BT [ 32767 ] TJ", 14, 25);
        wrong("BT /F 1 Tf 1 0 0 1 32767 0 Tm 32767 Tc () Tj (A) Tj", 14, 49);
        shows("BT 0 -32768 Td 0 32767 Td ET", 0);
        shows("BT 0 -32768 Tm ET".replace("0 -32768", "-32768 -32768 -32768 -32768 -32768 -32768"), 0);
    }

    private static void manyGlyphs() {
        String hundred = "(" + Files.repeat("A", 100) + ") Tj ";
        String contents = "/F .01 Tf BT " + Files.repeat(hundred, 15);
        shows(contents + "() Tj ET", 1500);
        wrong(contents + "(A) Tj ET", 5, contents.length() + 4);
    }

    private static void theAnswers() {
        PaperHouse x = house(FONT);
        Checks.due("fault(2) before", x.fault(2), 0);
        Checks.due("fault(3) before", x.fault(3), -1);
        Checks.due("show below", x.show(-1), -1);
        Checks.due("show beyond", x.show(1), -1);
        Files.contents(x, 0, "BT /F 1 Tf (AB) Tj ET");
        Checks.due("two", x.show(0), 2);
        Checks.due("glyph below", x.glyph(-1, 0), -1);
        Checks.due("glyph(0, 5)", x.glyph(0, 5), -1);
        Checks.due("glyph(0, -1)", x.glyph(0, -1), -1);
        Checks.due("none such", x.show(7), -1);
        Checks.due("the glyphs stay", x.glyph(1, 0), 'B');
        Files.contents(x, 0, "ET");
        Checks.due("they stay behind a change", x.glyph(1, 0), 'B');
        Checks.due("a fault", x.show(0), -112);
        Checks.due("they are gone", x.glyph(0, 0), -1);
        Checks.due("fault(2)", x.fault(2), 12);
        Checks.due("none such again", x.show(7), -1);
        Checks.due("fault(2) stays", x.fault(2), 12);
        Checks.due("fault(0) has no part in it", x.fault(0), 0);
        Files.load(x, Files.empty().table("/Root 1 0 R"));
        Checks.due("fault(2) behind load", x.fault(2), 0);
        Checks.due("fault(3) behind load", x.fault(3), -1);
        PaperHouse y = house(FONT);
        Files.contents(y, 0, "BT /F 1 Tf (AB) Tj ET");
        y.show(0);
        Files.load(y, Files.empty().table("/Root 1 0 R"));
        Checks.due("no glyphs behind load", y.glyph(0, 0), -1);
    }
}
