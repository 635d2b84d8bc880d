/** Promises 4 to 11: tokens and objects, and the cursor that looks at them. */
public final class TokenTest {
    private static final int BODY = Files.empty().length() + 8;

    public static void main(String[] args) {
        kinds();
        numbers();
        numbersWrong();
        names();
        strings();
        stringsWrong();
        references();
        arraysAndDicts();
        dictsWrong();
        limits();
        theCursor();
        manyObjects();
        Checks.end();
    }

    private static String file(String body) {
        return Files.empty().object(3, body).table("/Root 1 0 R");
    }

    /** A document with that object 3, the cursor being there. */
    private static PaperHouse at(String body) {
        PaperHouse x = Checks.loads(body, file(body), 0);
        Checks.due(body + ": go", x.go(3) >= 0, true);
        return x;
    }

    private static void wrong(String body, int fault, int behind) {
        Checks.refuses(body.length() > 60 ? body.substring(0, 60) : body, file(body), fault, BODY + behind);
    }

    private static void value(String body, int kind, int value) {
        PaperHouse x = at(body);
        Checks.due(body + ": kind", x.here(0), kind);
        Checks.due(body + ": value", x.here(1), value);
    }

    private static void letters(String body, int kind, String want) {
        PaperHouse x = at(body);
        Checks.due(body + ": kind", x.here(0), kind);
        Checks.due(body + ": letters", Files.letters(x, false), want);
        Checks.due(body + ": behind", x.letter(want.length(), false), -1);
        Checks.due(body + ": before", x.letter(-1, false), -1);
    }

    private static void kinds() {
        value("null", 0, 0);
        value("true", 1, 1);
        value("false", 1, 0);
        value("17", 2, 17);
        value("1.5", 3, 98304);
        value("/A", 4, 0);
        value("(A)", 5, 0);
        value("[ ]", 6, 0);
        value("<< >>", 7, 0);
        value("1 0 R", 8, 1);
        value("%remark ) >> \r17", 2, 17);
        wrong("True", 4, 0);
        wrong("obj", 4, 0);
        wrong("R", 4, 0);
        wrong("nulll", 4, 0);
    }

    private static void numbers() {
        value("-0", 2, 0);
        value("+12", 2, 12);
        value("-2147483648", 2, Integer.MIN_VALUE);
        value("2147483647", 2, Integer.MAX_VALUE);
        value("0000000000000000000012", 2, 12);
        value("1.", 3, 65536);
        value(".5", 3, 32768);
        value("-.5", 3, -32768);
        value("+.5", 3, 32768);
        value("0.00000762", 3, 0);
        value("0.00000763", 3, 1);
        value("-0.00000763", 3, -1);
        value("0.000007629", 3, 0);
        value("0.000007630", 3, 1);
        value("0.5000076", 3, 32768);
        value("0.000022888", 3, 1);
        value("0.000022889", 3, 2);
        value("-32768.0", 3, Integer.MIN_VALUE);
        value("32767.99999", 3, Integer.MAX_VALUE);
        value("000032767.000000000", 3, 32767 * 65536);
    }

    private static void numbersWrong() {
        wrong("2147483648", 5, 0);
        wrong("-2147483649", 5, 0);
        wrong("99999999999999999999999999", 5, 0);
        wrong("32768.0", 5, 0);
        wrong("-32768.00001", 5, 0);
        wrong("32767.999999", 5, 0);
        wrong("0000000001.0", 5, 0);
        wrong("0.0000000001", 5, 0);
        wrong("999999999.999999999", 5, 0);
        wrong("1.2.3", 4, 0);
        wrong("1..", 4, 0);
        wrong(".", 4, 0);
        wrong("+", 4, 0);
        wrong("-.", 4, 0);
        wrong("--1", 4, 0);
        wrong("1-", 4, 0);
        wrong("1e5", 4, 0);
        wrong("[ 1 12345678901 ]", 5, 4);
    }

    private static void names() {
        letters("/", 4, "");
        letters("/A.b-c*d", 4, "A.b-c*d");
        letters("/A#20b#fF", 4, "A b\u00ff");
        letters("/#2F#23", 4, "/#");
        letters("/123", 4, "123");
        letters("/" + Files.repeat("a", 60), 4, Files.repeat("a", 60));
        letters("/" + Files.repeat("#41", 60), 4, Files.repeat("A", 60));
        wrong("/" + Files.repeat("a", 61), 5, 0);
        wrong("/" + Files.repeat("a", 61) + "#0", 4, 0);
        wrong("/A#", 4, 0);
        wrong("/A#4", 4, 0);
        wrong("/A#00", 4, 0);
        wrong("/A#4G", 4, 0);
        wrong("[ /B /A#4(1) ]", 4, 5);
    }

    private static void strings() {
        letters("()", 5, "");
        letters("(a(b(c)d)e)", 5, "a(b(c)d)e");
        letters("(a\rb\nc\r\nd\n\re)", 5, "a\nb\nc\nd\n\ne");
        letters("(\\n\\r\\t\\b\\f\\(\\)\\\\)", 5, "\n\r\t\b\f()\\");
        letters("(\\1\\12\\101\\1234\\8\\777)", 5, "\u0001\nAS48\u00ff");
        letters("(a\\\rb\\\nc\\\r\nd\\\n\re)", 5, "abcd\ne");
        letters("(\\x\\%\\ )", 5, "x% ");
        letters("(\\060\\0539\\0\\7)", 5, "0+9\0\u0007");
        letters("(%no remark)", 5, "%no remark");
        letters("<>", 5, "");
        letters("<4142>", 5, "AB");
        letters("< 4 1\t\r\n42 \f >", 5, "AB");
        letters("<414>", 5, "A@");
        letters("<aBcD>", 5, "\u00ab\u00cd");
        letters("(" + Files.repeat("x", 2000) + ")", 5, Files.repeat("x", 2000));
        letters("<" + Files.repeat("78", 2000) + ">", 5, Files.repeat("x", 2000));
    }

    private static void stringsWrong() {
        wrong("(a(b)", 4, 0);
        wrong("<41", 4, 0);
        wrong("<4g>", 4, 0);
        wrong("<41%\n>", 4, 0);
        wrong("<41<", 4, 0);
        wrong("(" + Files.repeat("x", 2001) + ")", 5, 0);
        wrong("(" + Files.repeat("\\170", 1900) + "(", 4, 0);
        wrong("<" + Files.repeat("78", 2001) + ">", 5, 0);
        wrong("<" + Files.repeat("78", 2001) + "g>", 4, 0);
        wrong(")", 4, 0);
        wrong(">", 4, 0);
        wrong("{", 4, 0);
        wrong("}", 4, 0);
        wrong("]", 4, 0);
        wrong(">>", 4, 0);
        wrong("[ ) ]", 4, 2);
    }

    private static void references() {
        PaperHouse x = at("7 12 R");
        Checks.due("reference: number", x.here(1), 7);
        Checks.due("reference: generation", x.here(3), 12);
        Checks.due("reference: parts", x.here(2), 0);
        value("007%\r 0 %x\nR", 8, 7);
        value("199 65535 R", 8, 199);
        wrong("200 0 R", 5, 0);
        wrong("0 0 R", 5, 0);
        wrong("1 65536 R", 5, 0);
        wrong("[ 5 200 0 R ]", 5, 4);
        Checks.refuses("a sign", file("+1 0 R"), 6, Files.empty().length());
        Checks.refuses("two signs", file("[ 1 ] 0 R"), 6, Files.empty().length());
        wrong("[ 1 +0 R ]", 4, 7);
        wrong("[ 1 0 R2 ]", 4, 6);
        PaperHouse y = at("[ 1 2 3 4 R 5 6 ]");
        Checks.due("wholes and a reference", y.here(2), 5);
        Checks.due("the third is a reference", y.down(2), 8);
        Checks.due("its number", y.here(1), 3);
    }

    private static void arraysAndDicts() {
        PaperHouse x = at("[[]<</A[/B(c)]/C/D>>(e)<66>1 -2.5 null true]");
        Checks.due("array: parts", x.here(2), 8);
        Checks.due("array: part 0", x.down(0), 6);
        Checks.due("array: part 0 has none", x.down(0), -1);
        Checks.due("array: back", x.up(), 0);
        Checks.due("array: part 1", x.down(1), 7);
        Checks.due("dict: entries", x.here(2), 2);
        Checks.due("dict: entry 0", x.down(0), 6);
        Checks.due("dict: key 0", Files.letters(x, true), "A");
        Checks.due("dict: entry 0 part 1", x.down(1), 5);
        Checks.due("its letter", x.letter(0, false), 'c');
        Checks.due("it is no entry", x.here(4), 0);
        Checks.due("it has no key", x.letter(0, true), -1);
        Checks.due("back", x.up(), 2);
        Checks.due("back again", x.up(), 1);
        Checks.due("dict: entry 1", x.down(1), 4);
        Checks.due("dict: key 1", x.letter(0, true), 'C');
        Checks.due("dict: value 1", x.letter(0, false), 'D');
        Checks.due("no entry 2", at("<</A 1/B 2>>").down(2), -1);
        Checks.due("an empty name is one", at("<</ 1>>").down(0), 2);
    }

    private static void dictsWrong() {
        wrong("<< /A 1 /A 2 >>", 5, 8);
        wrong("<< /A 1 /#41 2 >>", 5, 8);
        wrong("<< /A << /A 1 /A 2 >> >>", 5, 14);
        at("<< /A << /A 1 >> /B << /A 1 >> >>");
        wrong("<< /A >>", 4, 6);
        wrong("<< /A ] >>", 4, 6);
        wrong("<< 1 /A >>", 4, 3);
        wrong("<< (a) /A >>", 4, 3);
        wrong("<< 99999999999 /A >>", 5, 3);
        wrong("<< (" + Files.repeat("x", 2001) + ") /A >>", 5, 3);
        wrong("<< <" + Files.repeat("78", 2001) + "> /A >>", 5, 3);
        wrong("<< <41x> /A >>", 4, 3);
        wrong("<< << >> /A >>", 4, 3);
        wrong("<< [ /A >>", 4, 3);
        wrong("<< null /A >>", 4, 3);
        wrong("<< /A 1 > >", 4, 8);
        wrong("[ /A 1 >> ]", 4, 7);
        wrong("[ R ]", 4, 2);
    }

    private static void limits() {
        String open = Files.repeat("[", 20) + Files.repeat("]", 20);
        at(open);
        wrong("[" + open + "]", 5, 20);
        String dicts = Files.repeat("<</A", 20) + " 1" + Files.repeat(">>", 20);
        at(dicts);
        wrong("<</A" + dicts + ">>", 5, 80);
        wrong(Files.repeat("[", 20) + "<", 4, 20);
        wrong(Files.repeat("<</A", 20) + "[", 5, 80);
        wrong(Files.repeat("<</A[", 10) + "<<[", 5, 50);
        wrong("<</A" + Files.repeat("[", 18) + "<<[", 4, 24);
    }

    private static void theCursor() {
        PaperHouse x = at("[ 1 [ /A ] << /Key (v) >> ]");
        Checks.due("up at an object", x.up(), -1);
        Checks.due("down below 0", x.down(-1), -1);
        Checks.due("down to none", x.down(3), -1);
        Checks.due("it stays", x.here(0), 6);
        Checks.due("here(5)", x.here(5), -1);
        Checks.due("here(-1)", x.here(-1), -1);
        Checks.due("here(1) of an array", x.here(1), 0);
        Checks.due("here(3) of an array", x.here(3), 0);
        Checks.due("here(4) of an object", x.here(4), 0);
        Checks.due("letter of an array", x.letter(0, false), -1);
        x.down(0);
        Checks.due("down from a whole", x.down(0), -1);
        Checks.due("here(2) of a whole", x.here(2), 0);
        Checks.due("up", x.up(), 0);
        x.down(2);
        x.down(0);
        Checks.due("key", x.here(4), 3);
        Checks.due("key letter", x.letter(2, true), 'y');
        Checks.due("no key letter", x.letter(3, true), -1);
        Checks.due("go elsewhere", x.go(1), 7);
        Checks.due("up there", x.up(), -1);
        Checks.due("go to none", x.go(4), -1);
        Checks.due("it is nowhere", x.here(0), -1);
        Checks.due("down from nowhere", x.down(0), -1);
        Checks.due("up from nowhere", x.up(), -1);
        Checks.due("letter nowhere", x.letter(0, true), -1);
        Checks.due("go(0)", x.go(0), -1);
        Checks.due("go(-1)", x.go(-1), -1);
        Checks.due("go(200)", x.go(200), -1);
        Checks.due("go far", x.go(Integer.MAX_VALUE), -1);
        PaperHouse y = at(Files.repeat("[", 20) + Files.repeat("]", 20));
        for (int i = 0; i < 19; i++) {
            Checks.due("down " + i, y.down(0), 6);
        }
        Checks.due("down at last", y.down(0), -1);
        Checks.due("up from there", y.up(), 18);
        PaperHouse z = at("<< /Length 3 >>\nstream\nabc\nendstream");
        Checks.due("a stream", z.here(0), 9);
        Checks.due("its entries", z.here(2), 1);
        Checks.due("its entry", z.down(0), 2);
        Checks.due("its length", z.here(1), 3);
    }

    /** A catalog of 5, a tree of 7, a row stream's 14, two object streams' 11 each, and two arrays of wholes. */
    private static void manyObjects() {
        for (int more = 0; more <= 2; more++) {
            Files files = Files.empty();
            int second = 6000 - 5 - 7 - 14 - 11 - 11 - 1 - 3000 - 1 - 1 + more;
            inside(files, 5, "4 0 [" + Files.repeat("0 ", 3000) + "]");
            inside(files, 7, "6 0 [" + Files.repeat("0 ", second) + "]");
            int begin = files.length();
            int[] places = {0, files.placeOf(1), files.placeOf(2), 0, 5, files.placeOf(5), 7, files.placeOf(7)};
            StringBuilder rows = new StringBuilder();
            for (int n = 0; n < places.length; n++) {
                int kind = places[n] == 0 ? 0 : n == 4 || n == 6 ? 2 : 1;
                rows.append((char) kind).append((char) (places[n] >> 8)).append((char) (places[n] & 255)).append((char) 0);
            }
            files.raw("9 0 obj << /Type /XRef /Size 8 /W [ 1 2 1 ] /Root 1 0 R /Length 32 >> stream\n" + rows
                    + "\nendstream endobj ");
            if (more <= 1) {
                PaperHouse x = Checks.loads("5999 and " + more, files.end(begin), 0);
                x.go(6);
                Checks.due("parts of the second", x.here(2), second);
                Checks.due("the last is there", x.down(second - 1), 2);
            } else {
                Checks.refuses("6001", files.end(begin), 5, 5 + 2 * (second - 1));
            }
        }
    }

    private static void inside(Files files, int n, String data) {
        files.stream(n, "/Type /ObjStm /N 1 /First 4 /Filter /FlateDecode", Files.deflated(data));
    }
}
