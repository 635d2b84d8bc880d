/** Promises 4 to 11: tokens and objects, and the cursor that looks at them. */
public final class TokenTest {
    private static final int BODY = Files.empty().length() + 8;

    public static void main(String[] args) {
        kinds();
        numbers();
        numbersWrong();
        names();
        strings();
        stringsWrong();
        references();
        arraysAndDicts();
        dictsWrong();
        limits();
        theCursor();
        manyObjects();
        whiteAndDelimiters();
        bytesOfNames();
        bytesOfStrings();
        zerosOfStrings();
        escapes();
        edgesOfNumbers();
        edgesOfTexts();
        edgesOfReferences();
        edgesOfEntries();
        manyEntries();
        theEndOfTheFile();
        whatIsHere();
        depthOfTheCursor();
        nowhere();
        theLastObject();
        twiceCounted();
        onceCounted();
        fullAgain();
        Checks.end();
    }

    private static String file(String body) {
        return Files.empty().object(3, body).table("/Root 1 0 R");
    }

    /** A document with that object 3, the cursor being there. */
    private static House at(String body) {
        House x = Checks.loads(body, file(body), 0);
        Checks.due(body + ": go", x.go(3) >= 0, true);
        return x;
    }

    private static void wrong(String body, int fault, int behind) {
        Checks.refuses(body.length() > 60 ? body.substring(0, 60) : body, file(body), fault, BODY + behind);
    }

    private static void value(String body, int kind, int value) {
        House x = at(body);
        Checks.due(body + ": kind", x.here(0), kind);
        Checks.due(body + ": value", x.here(1), value);
    }

    private static void letters(String body, int kind, String want) {
        House x = at(body);
        Checks.due(body + ": kind", x.here(0), kind);
        Checks.due(body + ": letters", Files.letters(x, false), want);
        Checks.due(body + ": behind", x.letter(want.length(), false), -1);
        Checks.due(body + ": before", x.letter(-1, false), -1);
    }

    private static void kinds() {
        value("null", 0, 0);
        value("true", 1, 1);
        value("false", 1, 0);
        value("17", 2, 17);
        value("1.5", 3, 98304);
        value("/A", 4, 0);
        value("(A)", 5, 0);
        value("[ ]", 6, 0);
        value("<< >>", 7, 0);
        value("1 0 R", 8, 1);
        value("%remark ) >> \r17", 2, 17);
        wrong("True", 4, 0);
        wrong("obj", 4, 0);
        wrong("R", 4, 0);
        wrong("nulll", 4, 0);
    }

    private static void numbers() {
        value("-0", 2, 0);
        value("+12", 2, 12);
        value("-2147483648", 2, Integer.MIN_VALUE);
        value("2147483647", 2, Integer.MAX_VALUE);
        value("0000000000000000000012", 2, 12);
        value("1.", 3, 65536);
        value(".5", 3, 32768);
        value("-.5", 3, -32768);
        value("+.5", 3, 32768);
        value("0.00000762", 3, 0);
        value("0.00000763", 3, 1);
        value("-0.00000763", 3, -1);
        value("0.000007629", 3, 0);
        value("0.000007630", 3, 1);
        value("0.5000076", 3, 32768);
        value("0.000022888", 3, 1);
        value("0.000022889", 3, 2);
        value("-32768.0", 3, Integer.MIN_VALUE);
        value("32767.99999", 3, Integer.MAX_VALUE);
        value("000032767.000000000", 3, 32767 * 65536);
    }

    private static void numbersWrong() {
        wrong("2147483648", 5, 0);
        wrong("-2147483649", 5, 0);
        wrong("99999999999999999999999999", 5, 0);
        wrong("32768.0", 5, 0);
        wrong("-32768.00001", 5, 0);
        wrong("32767.999999", 5, 0);
        wrong("0000000001.0", 5, 0);
        wrong("0.0000000001", 5, 0);
        wrong("999999999.999999999", 5, 0);
        wrong("1.2.3", 4, 0);
        wrong("1..", 4, 0);
        wrong(".", 4, 0);
        wrong("+", 4, 0);
        wrong("-.", 4, 0);
        wrong("--1", 4, 0);
        wrong("1-", 4, 0);
        wrong("1e5", 4, 0);
        wrong("[ 1 12345678901 ]", 5, 4);
    }

    private static void names() {
        letters("/", 4, "");
        letters("/A.b-c*d", 4, "A.b-c*d");
        letters("/A#20b#fF", 4, "A b\u00ff");
        letters("/#2F#23", 4, "/#");
        letters("/123", 4, "123");
        letters("/" + Files.repeat("a", 60), 4, Files.repeat("a", 60));
        letters("/" + Files.repeat("#41", 60), 4, Files.repeat("A", 60));
        wrong("/" + Files.repeat("a", 61), 5, 0);
        wrong("/" + Files.repeat("a", 61) + "#0", 4, 0);
        wrong("/A#", 4, 0);
        wrong("/A#4", 4, 0);
        wrong("/A#00", 4, 0);
        wrong("/A#4G", 4, 0);
        wrong("[ /B /A#4(1) ]", 4, 5);
    }

    private static void strings() {
        letters("()", 5, "");
        letters("(a(b(c)d)e)", 5, "a(b(c)d)e");
        letters("(a\rb\nc\r\nd\n\re)", 5, "a\nb\nc\nd\n\ne");
        letters("(\\n\\r\\t\\b\\f\\(\\)\\\\)", 5, "\n\r\t\b\f()\\");
        letters("(\\1\\12\\101\\1234\\8\\777)", 5, "\u0001\nAS48\u00ff");
        letters("(a\\\rb\\\nc\\\r\nd\\\n\re)", 5, "abcd\ne");
        letters("(\\x\\%\\ )", 5, "x% ");
        letters("(\\060\\0539\\0\\7)", 5, "0+9\0\u0007");
        letters("(%no remark)", 5, "%no remark");
        letters("<>", 5, "");
        letters("<4142>", 5, "AB");
        letters("< 4 1\t\r\n42 \f >", 5, "AB");
        letters("<414>", 5, "A@");
        letters("<aBcD>", 5, "\u00ab\u00cd");
        letters("(" + Files.repeat("x", 2000) + ")", 5, Files.repeat("x", 2000));
        letters("<" + Files.repeat("78", 2000) + ">", 5, Files.repeat("x", 2000));
    }

    private static void stringsWrong() {
        wrong("(a(b)", 4, 0);
        wrong("<41", 4, 0);
        wrong("<4g>", 4, 0);
        wrong("<41%\n>", 4, 0);
        wrong("<41<", 4, 0);
        wrong("(" + Files.repeat("x", 2001) + ")", 5, 0);
        wrong("(" + Files.repeat("\\170", 1900) + "(", 4, 0);
        wrong("<" + Files.repeat("78", 2001) + ">", 5, 0);
        wrong("<" + Files.repeat("78", 2001) + "g>", 4, 0);
        wrong(")", 4, 0);
        wrong(">", 4, 0);
        wrong("{", 4, 0);
        wrong("}", 4, 0);
        wrong("]", 4, 0);
        wrong(">>", 4, 0);
        wrong("[ ) ]", 4, 2);
    }

    private static void references() {
        House x = at("7 12 R");
        Checks.due("reference: number", x.here(1), 7);
        Checks.due("reference: generation", x.here(3), 12);
        Checks.due("reference: parts", x.here(2), 0);
        value("007%\r 0 %x\nR", 8, 7);
        value("199 65535 R", 8, 199);
        wrong("200 0 R", 5, 0);
        wrong("0 0 R", 5, 0);
        wrong("1 65536 R", 5, 0);
        wrong("[ 5 200 0 R ]", 5, 4);
        Checks.refuses("a sign", file("+1 0 R"), 6, Files.empty().length());
        Checks.refuses("two signs", file("[ 1 ] 0 R"), 6, Files.empty().length());
        wrong("[ 1 +0 R ]", 4, 7);
        wrong("[ 1 0 R2 ]", 4, 6);
        House y = at("[ 1 2 3 4 R 5 6 ]");
        Checks.due("wholes and a reference", y.here(2), 5);
        Checks.due("the third is a reference", y.down(2), 8);
        Checks.due("its number", y.here(1), 3);
    }

    private static void arraysAndDicts() {
        House x = at("[[]<</A[/B(c)]/C/D>>(e)<66>1 -2.5 null true]");
        Checks.due("array: parts", x.here(2), 8);
        Checks.due("array: part 0", x.down(0), 6);
        Checks.due("array: part 0 has none", x.down(0), -1);
        Checks.due("array: back", x.up(), 0);
        Checks.due("array: part 1", x.down(1), 7);
        Checks.due("dict: entries", x.here(2), 2);
        Checks.due("dict: entry 0", x.down(0), 6);
        Checks.due("dict: key 0", Files.letters(x, true), "A");
        Checks.due("dict: entry 0 part 1", x.down(1), 5);
        Checks.due("its letter", x.letter(0, false), 'c');
        Checks.due("it is no entry", x.here(4), 0);
        Checks.due("it has no key", x.letter(0, true), -1);
        Checks.due("back", x.up(), 2);
        Checks.due("back again", x.up(), 1);
        Checks.due("dict: entry 1", x.down(1), 4);
        Checks.due("dict: key 1", x.letter(0, true), 'C');
        Checks.due("dict: value 1", x.letter(0, false), 'D');
        Checks.due("no entry 2", at("<</A 1/B 2>>").down(2), -1);
        Checks.due("an empty name is one", at("<</ 1>>").down(0), 2);
    }

    private static void dictsWrong() {
        wrong("<< /A 1 /A 2 >>", 5, 8);
        wrong("<< /A 1 /#41 2 >>", 5, 8);
        wrong("<< /A << /A 1 /A 2 >> >>", 5, 14);
        at("<< /A << /A 1 >> /B << /A 1 >> >>");
        wrong("<< /A >>", 4, 6);
        wrong("<< /A ] >>", 4, 6);
        wrong("<< 1 /A >>", 4, 3);
        wrong("<< (a) /A >>", 4, 3);
        wrong("<< 99999999999 /A >>", 5, 3);
        wrong("<< (" + Files.repeat("x", 2001) + ") /A >>", 5, 3);
        wrong("<< <" + Files.repeat("78", 2001) + "> /A >>", 5, 3);
        wrong("<< <41x> /A >>", 4, 3);
        wrong("<< << >> /A >>", 4, 3);
        wrong("<< [ /A >>", 4, 3);
        wrong("<< null /A >>", 4, 3);
        wrong("<< /A 1 > >", 4, 8);
        wrong("[ /A 1 >> ]", 4, 7);
        wrong("[ R ]", 4, 2);
    }

    private static void limits() {
        String open = Files.repeat("[", 20) + Files.repeat("]", 20);
        at(open);
        wrong("[" + open + "]", 5, 20);
        String dicts = Files.repeat("<</A", 20) + " 1" + Files.repeat(">>", 20);
        at(dicts);
        wrong("<</A" + dicts + ">>", 5, 80);
        wrong(Files.repeat("[", 20) + "<", 4, 20);
        wrong(Files.repeat("<</A", 20) + "[", 5, 80);
        wrong(Files.repeat("<</A[", 10) + "<<[", 5, 50);
        wrong("<</A" + Files.repeat("[", 18) + "<<[", 4, 24);
    }

    private static void theCursor() {
        House x = at("[ 1 [ /A ] << /Key (v) >> ]");
        Checks.due("up at an object", x.up(), -1);
        Checks.due("down below 0", x.down(-1), -1);
        Checks.due("down to none", x.down(3), -1);
        Checks.due("it stays", x.here(0), 6);
        Checks.due("here(5)", x.here(5), -1);
        Checks.due("here(-1)", x.here(-1), -1);
        Checks.due("here(1) of an array", x.here(1), 0);
        Checks.due("here(3) of an array", x.here(3), 0);
        Checks.due("here(4) of an object", x.here(4), 0);
        Checks.due("letter of an array", x.letter(0, false), -1);
        x.down(0);
        Checks.due("down from a whole", x.down(0), -1);
        Checks.due("here(2) of a whole", x.here(2), 0);
        Checks.due("up", x.up(), 0);
        x.down(2);
        x.down(0);
        Checks.due("key", x.here(4), 3);
        Checks.due("key letter", x.letter(2, true), 'y');
        Checks.due("no key letter", x.letter(3, true), -1);
        Checks.due("go elsewhere", x.go(1), 7);
        Checks.due("up there", x.up(), -1);
        Checks.due("go to none", x.go(4), -1);
        Checks.due("it is nowhere", x.here(0), -1);
        Checks.due("down from nowhere", x.down(0), -1);
        Checks.due("up from nowhere", x.up(), -1);
        Checks.due("letter nowhere", x.letter(0, true), -1);
        Checks.due("go(0)", x.go(0), -1);
        Checks.due("go(-1)", x.go(-1), -1);
        Checks.due("go(200)", x.go(200), -1);
        Checks.due("go far", x.go(Integer.MAX_VALUE), -1);
        House y = at(Files.repeat("[", 20) + Files.repeat("]", 20));
        for (int i = 0; i < 19; i++) {
            Checks.due("down " + i, y.down(0), 6);
        }
        Checks.due("down at last", y.down(0), -1);
        Checks.due("up from there", y.up(), 18);
        House z = at("<< /Length 3 >>\nstream\nabc\nendstream");
        Checks.due("a stream", z.here(0), 9);
        Checks.due("its entries", z.here(2), 1);
        Checks.due("its entry", z.down(0), 2);
        Checks.due("its length", z.here(1), 3);
    }

    /** A catalog of 5, a tree of 7, a row stream's 14, two object streams' 11 each, and two arrays of wholes. */
    private static void manyObjects() {
        for (int more = 0; more <= 2; more++) {
            String zeros = Files.repeat("0 ", ROOM - 1 + more);
            if (more <= 1) {
                House x = Checks.loads("5999 and " + more, filled("6 0 [" + zeros + "]", 0), 0);
                x.go(6);
                Checks.due("parts of the second", x.here(2), ROOM - 1 + more);
                Checks.due("the last is there", x.down(ROOM - 2 + more), 2);
            } else {
                Checks.refuses("6001", filled("6 0 [" + zeros + "]", 0), 5, 5 + 2 * ROOM);
            }
        }
    }

    // How many objects more can be read behind the beginning of the array that fills a file.
    private static final int ROOM = 6000 - 5 - 7 - 14 - 11 - 11 - 1 - 3000 - 1;

    /** A file whose object 6, read last, stands in an object stream; own: how many rows tell of the row stream. */
    private static String filled(String sixth, int own) {
        Files files = Files.empty();
        inside(files, 5, "4 0 [" + Files.repeat("0 ", 3000) + "]");
        inside(files, 7, sixth);
        int begin = files.length();
        int[] places = {0, files.placeOf(1), files.placeOf(2), 0, 5, files.placeOf(5), 7, files.placeOf(7), begin};
        StringBuilder rows = new StringBuilder();
        for (int n = 0; n < 8 + own; n++) {
            int kind = places[n] == 0 ? 0 : n == 4 || n == 6 ? 2 : 1;
            rows.append((char) kind).append((char) (places[n] >> 8)).append((char) (places[n] & 255)).append((char) 0);
        }
        files.raw("8 0 obj << /Type /XRef /Size " + (8 + own) + " /W [ 1 2 1 ] /Root 1 0 R /Length " + rows.length() + " >> stream\n"
                + rows + "\nendstream endobj ");
        return files.end(begin);
    }

    private static void inside(Files files, int n, String data) {
        files.stream(n, "/Type /ObjStm /N 1 /First 4 /Filter /FlateDecode", Files.deflated(data));
    }

    /** What begins where only so many objects more can be read; the fault is so far behind its beginning. */
    private static void last(String body, int room, int fault, int behind) {
        String ahead = "6 0 [" + Files.repeat("0 ", ROOM - room);
        String what = body + " with room for " + room;
        if (fault == 0) {
            Checks.loads(what, filled(ahead + body + "]", 0), 0);
        } else {
            Checks.refuses(what, filled(ahead + body + "]", 0), fault, ahead.length() + behind);
        }
    }

    /** Each object counts, and each name of an entry; an array, a dict as it begins, a reference is one. */
    private static void theLastObject() {
        for (String body : new String[] {"7", "-7.5", "null", "true", "false", "/A", "(s)", "<41>", "1 0 R"}) {
            last(body, 0, 5, 0);
            last(body, 1, 0, 0);
        }
        last("[ 7 ]", 0, 5, 0);
        last("[ 7 ]", 1, 5, 2);
        last("[ 7 ]", 2, 0, 0);
        last("<< /A 7 >>", 0, 5, 0);
        last("<< /A 7 >>", 1, 5, 3);
        last("<< /A 7 >>", 2, 5, 6);
        last("<< /A 7 >>", 3, 0, 0);
        last("[ ] << >>", 2, 0, 0);
        last("[ ] << >>", 1, 5, 4);
        last("1 0 R 2 0 R", 1, 5, 6);
        // Of one token what is no token goes ahead of what is beyond.
        for (String body : new String[] {")", "x", "/A#0", "<4g>", "(", "{"}) {
            last(body, 0, 4, 0);
        }
    }

    /** A row stream that is an object, too, counts twice; it is read last here, and a whole is its last object. */
    private static void twiceCounted() {
        String sixth = "6 0 [" + Files.repeat("0 ", ROOM - 14);
        Checks.loads("a row stream counted twice", filled(sixth + "]", 1), 0);
        String file = filled(sixth + "0 ]", 1);
        Checks.refuses("one more", file, 5, file.lastIndexOf("/Length 36") + 8);
    }

    /** A house reads a full file again and again, within its 512 calls: objects count anew each time. */
    private static void fullAgain() {
        String file = filled("6 0 [" + Files.repeat("0 ", ROOM) + "]", 0);
        String beyond = filled("6 0 [" + Files.repeat("0 ", ROOM + 1) + "]", 0);
        Checks.due("short files", file.length() < 700 && beyond.length() < 700, true);
        House x = new House();
        for (int i = 0; i < 6; i++) {
            Checks.due("6000 again " + i, Files.load(x, file), 0);
            Checks.due("6001 again " + i, Files.load(x, beyond), -105);
        }
        Checks.due("6000 at last", Files.load(x, file), 0);
        x.go(6);
        Checks.due("its parts", x.here(2), ROOM);
    }

    /** A length that is read ahead of its turn counts once, and so does what a holder holds. */
    private static void onceCounted() {
        for (int more = 0; more <= 1; more++) {
            Files files = Files.empty();
            inside(files, 5, "4 0 [" + Files.repeat("0 ", 3000) + "]");
            inside(files, 7, "6 0 [" + Files.repeat("0 ", ROOM - 4 + more) + "]");
            files.object(8, "<< /Length 9 0 R >> stream\n\nendstream").object(9, "0");
            int begin = files.length();
            StringBuilder rows = new StringBuilder();
            for (int n = 0; n < 10; n++) {
                int place = n == 0 || n == 3 ? 0 : n == 4 ? 5 : n == 6 ? 7 : files.placeOf(n);
                rows.append((char) (place == 0 ? 0 : n == 4 || n == 6 ? 2 : 1)).append((char) (place >> 8)).append((char) (place & 255)).append((char) 0);
            }
            files.raw("11 0 obj << /Type /XRef /Size 10 /W [ 1 2 1 ] /Root 1 0 R /Length 40 >> stream\n" + rows + "\nendstream endobj ");
            int nine = files.placeOf(9);
            if (more == 0) {
                Checks.due("6000 of which one is a length", Checks.loads("a length counts once", files.end(begin), 0).size(8), 0);
            } else {
                Checks.refuses("one more", files.end(begin), 5, nine + 8);
            }
        }
    }

    /** Each of the 256 bytes between two digits in an array. */
    private static void whiteAndDelimiters() {
        for (int c = 0; c < 256; c++) {
            String body = "[1" + (char) c + "1]";
            if ("\0\t\n\f\r ".indexOf(c) >= 0) {
                Checks.due("white " + c, at(body).here(2), 2);
            } else if (c >= '0' && c <= '9' || c == '.' || c == '/') {
                Checks.due("row " + c, at(body).here(2), c == '/' ? 2 : 1);
            } else if (c == '[') {
                wrong(body, 4, 6);
            } else if (c == '%') {
                wrong(body, 4, 6);
            } else if (c == ']') {
                Checks.refuses("array " + c, file(body), 6, Files.empty().length());
            } else {
                wrong(body, 4, "()<>{}".indexOf(c) >= 0 ? 2 : 1);
            }
        }
        for (int c = 0; c < 256; c++) {
            boolean ends = c == 10 || c == 13;
            String body = "[7%(>" + (char) c + (ends ? "" : "[ x\r") + "8]";
            Checks.due("remark with " + c, at(body).here(2), 2);
        }
        for (String ahead : new String[] {"(x)", "<41>", "[]", "<<>>", "/A", "1", "-1.5", "null", "1 0 R"}) {
            for (String behind : new String[] {"(x)", "<41>", "[]", "<<>>", "/A", "%x\n", " "}) {
                int parts = behind.equals("%x\n") || behind.equals(" ") ? 1 : 2;
                Checks.due(ahead + behind, at("[" + ahead + behind + "]").here(2), parts);
            }
        }
    }

    private static void bytesOfNames() {
        for (int c = 0; c < 256; c++) {
            boolean regular = "\0\t\n\f\r ()<>[]{}/%#".indexOf(c) < 0;
            if (regular) {
                letters("/" + (char) c + "x", 4, (char) c + "x");
            }
            if (c > 0) {
                letters("/x" + String.format(c % 2 == 0 ? "#%02x" : "#%02X", c) + "y", 4, "x" + (char) c + "y");
            }
        }
        wrong("/x#00y", 4, 0);
        wrong("/x#y1", 4, 0);
        wrong("/x#1y", 4, 0);
        wrong("/x#1", 4, 0);
        wrong("/x#1(y)", 4, 0);
        wrong("/x# 41", 4, 0);
        wrong("/x#G1", 4, 0);
        wrong("/x#/1", 4, 0);
        wrong("/x#1:", 4, 0);
        wrong("/x#1@", 4, 0);
        wrong("/x#1`", 4, 0);
        wrong("/x#1g", 4, 0);
    }

    private static void bytesOfStrings() {
        for (int c = 0; c < 256; c++) {
            if ("()\\".indexOf(c) < 0) {
                letters("(x" + (char) c + "y)", 5, "x" + (c == 13 ? '\n' : (char) c) + "y");
            }
            String hex = "<5" + (char) c + "1>";
            if ("\0\t\n\f\r ".indexOf(c) >= 0) {
                letters(hex, 5, "Q");
            } else if (Character.digit(c, 16) >= 0 && c < 128) {
                letters(hex, 5, "" + (char) (0x50 + Character.digit(c, 16)) + (char) 16);
            } else if (c != '>') {
                wrong(hex, 4, 0);
            }
        }
    }

    /** Digits that are 0 count like all others. */
    private static void zerosOfStrings() {
        letters("<0>", 5, "\0");
        letters("<00>", 5, "\0");
        letters("<000>", 5, "\0\0");
        letters("<0 1 02>", 5, "\1\2");
        letters("<0010F00f>", 5, "\0\u0010\u00f0\u000f");
        letters("<410>", 5, "A\0");
    }

    private static void escapes() {
        String known = "nrtbf()\\";
        for (int c = 0; c < 256; c++) {
            int at = known.indexOf(c);
            String want = at >= 0 ? "" + "\n\r\t\b\f()\\".charAt(at) : c == 10 || c == 13 ? ""
                    : c >= '0' && c <= '7' ? "" + (char) (c - '0') : "" + (char) c;
            letters("(\\" + (char) c + "z)", 5, want + "z");
        }
        for (int code = 0; code < 512; code++) {
            letters(String.format("(\\%03o7)", code), 5, (char) (code & 255) + "7");
        }
        letters("(\\18\\778\\7)", 5, "\0018\u003f8\7");
        letters("(\\400\\377)", 5, "\0\u00ff");
        letters("(\\\r\n\\\n\r)", 5, "\n");
        wrong("(\\)", 4, 0);
        wrong("[ (a\\)) ( ]", 4, 8);
    }

    private static void edgesOfNumbers() {
        value("32767.999992", 3, Integer.MAX_VALUE);
        value("32767.999992370", 3, Integer.MAX_VALUE);
        wrong("32767.999992371", 5, 0);
        value("-32768.000007629", 3, Integer.MIN_VALUE);
        wrong("-32768.000007630", 5, 0);
        value("-32767.99999", 3, -Integer.MAX_VALUE);
        value("000000001.", 3, 65536);
        wrong("0000000001.", 5, 0);
        value(".999999999", 3, 65536);
        wrong(".9999999990", 5, 0);
        wrong("+999999999.999999999", 5, 0);
        wrong("999999999.", 5, 0);
        wrong("100000000000000000000000000000.5", 5, 0);
        wrong(".100000000000000000000000000000", 5, 0);
        value("+2147483647", 2, Integer.MAX_VALUE);
        wrong("+2147483648", 5, 0);
        value("-000000000002147483648", 2, Integer.MIN_VALUE);
        wrong("-4294967295", 5, 0);
        wrong("4294967296", 5, 0);
        wrong("18446744073709551616", 5, 0);
        for (String word : new String[] {"+-1", "1+", ".1.", "1.-", "-+", "1,5", "0x1", ".+1", "1.5e3", "++", "..", "-.-"}) {
            wrong(word, 4, 0);
        }
    }

    private static void edgesOfTexts() {
        letters("/" + Files.repeat("a", 59) + "#41", 4, Files.repeat("a", 59) + "A");
        wrong("/" + Files.repeat("a", 60) + "#41", 5, 0);
        wrong("/" + Files.repeat("a", 3000), 5, 0);
        wrong("/" + Files.repeat("a", 60) + "#00", 4, 0);
        letters("(" + Files.repeat("\\061", 1900) + "(" + Files.repeat("x", 98) + "))", 5,
                Files.repeat("1", 1900) + "(" + Files.repeat("x", 98) + ")");
        wrong("(" + Files.repeat("x", 1999) + "())", 5, 0);
        letters("(" + Files.repeat("x", 1999) + "\\\r\n\r\n)", 5, Files.repeat("x", 1999) + "\n");
        letters("<" + Files.repeat("78", 1999) + "7>", 5, Files.repeat("x", 1999) + "p");
        wrong("<" + Files.repeat("78", 2000) + "7>", 5, 0);
        wrong("(" + Files.repeat("x", 2001), 4, 0);
        wrong("<" + Files.repeat("78", 2001) + "(", 4, 0);
        wrong("[ 1 (" + Files.repeat("x", 2001) + ") ]", 5, 4);
        wrong("[ 1 /" + Files.repeat("x", 61) + " ]", 5, 4);
    }

    private static void edgesOfReferences() {
        value("1 0 R", 8, 1);
        value("199 0 R", 8, 199);
        wrong("2147483647 0 R", 5, 0);
        wrong("[ 1 2147483647 R ]", 5, 2);
        wrong("[ 200 65536 R ]", 5, 2);
        wrong("<< /A 0 0 R >>", 5, 6);
        wrong("[ 99999999999 0 R ]", 5, 2);
        Checks.due("not so far", at("[ 200 65536 ]").here(2), 2);
        Checks.due("not so far, three", at("[ 0 0 0 0 ]").here(2), 4);
        wrong("[ 1 0 r ]", 4, 6);
        wrong("[ 1 0R ]", 4, 4);
        wrong("[ -1 0 R ]", 4, 7);
        wrong("[ 1.0 0 R ]", 4, 8);
        wrong("[ 1 0.0 R ]", 4, 8);
        wrong("[ 1 0 /A R ]", 4, 9);
        Checks.due("delimiters behind", at("[1 0 R/A 1 0 R(x)1 0 R]").here(2), 5);
        value("199 65535%x\nR", 8, 199);
    }

    private static void edgesOfEntries() {
        String sixty = Files.repeat("n", 60);
        Checks.due("a long name", at("<< /" + sixty + " 1 /" + sixty.substring(1) + " 2 >>").here(2), 2);
        wrong("<< /A 1 /" + sixty + "n 2 >>", 5, 8);
        wrong("<< /A 1 /" + sixty + "n#0 2 >>", 4, 8);
        wrong("<< /" + sixty + " 1 /" + sixty + " 2 >>", 5, 67);
        wrong("<< / 1 / 2 >>", 5, 7);
        wrong("<< /A 1 /B 2 /C 3 /A 4 >>", 5, 18);
        wrong("<< /A 1 /B 2 /B >>", 5, 13);
        wrong("<< /A 1 /B << /C 1 /D 2 /C 3 >> /A 2 >>", 5, 24);
        Checks.due("lower and upper", at("<< /A 1 /a 2 >>").here(2), 2);
        for (String key : new String[] {"1", "-1.5", "1 0 R", "true", "null", "x", "(a)", "<41>", "[ ]", "<< >>", "]", ")", "{", ">"}) {
            wrong("<< " + key + " /A >>", 4, 3);
        }
        for (String key : new String[] {"2147483648", "-2147483649", "32768.0", "1.0000000000", "99999999999999999999"}) {
            wrong("<< " + key + " /A >>", 5, 3);
        }
        for (String word : new String[] {"99999999999x", "1.0000000000x", "--99999999999", "1.2.99999999999"}) {
            wrong("<< " + word + " /A >>", 4, 3);
            wrong("[ " + word + " ]", 4, 2);
        }
        wrong("<< (" + Files.repeat("x", 2000) + ") /A >>", 4, 3);
        wrong("<< (" + Files.repeat("x", 2001) + " /A >>", 4, 3);
        wrong("<< <" + Files.repeat("78", 2000) + "> /A >>", 4, 3);
        wrong("<< <" + Files.repeat("78", 2001) + "x> /A >>", 4, 3);
        wrong("<< /A 1 2 >>", 4, 8);
        wrong("<< /A 1 99999999999 >>", 5, 8);
        wrong("<< /A 1 ", 4, 9);
        wrong("<< /A 1 >", 4, 8);
        wrong("<< /A > >", 4, 6);
    }

    /** Entries of which many names are alike; the last one is there twice. */
    private static void manyEntries() {
        StringBuilder body = new StringBuilder("<< ");
        for (int i = 0; i < 400; i++) {
            body.append("/k").append((char) ('a' + i % 20)).append((char) ('a' + i / 20)).append(' ').append(i).append(' ');
        }
        House x = at(body + ">>");
        Checks.due("400 entries", x.here(2), 400);
        for (int i = 0; i < 400; i += 57) {
            Checks.due("entry " + i, x.down(i), 2);
            Checks.due("value " + i, x.here(1), i);
            Checks.due("name " + i, x.letter(1, true), 'a' + i % 20);
            x.up();
        }
        Checks.due("no entry 400", x.down(400), -1);
        wrong(body + "/kaa 1 >>", 5, body.length());
        wrong(body + "/ktt 1 >>", 5, body.length());
        at(body + "/kua 1 >>");
        // Names whose bytes add up to the same in many ways are not the same.
        Checks.due("alike", at("<< /AaAa 1 /BBBB 2 /AaBB 3 /BBAa 4 >>").here(2), 4);
    }

    /** An object behind the trailer, which the file's end cuts short: a remark goes up to the end. */
    private static void theEndOfTheFile() {
        String[] bodies = {"", "[ ", "<< ", "<< /A ", "[ 1 0 ", "[ (a) "};
        for (String body : bodies) {
            Files files = Files.empty();
            int begin = files.length();
            String table = String.format("xref\n1 3\n%010d 00000 n \n%010d 00000 n \nAAAAAAAAAA 00000 n \n"
                    + "trailer << /Size 4 /Root 1 0 R >>\n", files.placeOf(1), files.placeOf(2));
            int place = begin + table.length();
            files.raw(table.replace("AAAAAAAAAA", String.format("%010d", place)) + "3 0 obj " + body + "%");
            String file = files.end(begin).replace("%startxref\n", "%startxref ").replace("\n%%EOF\n", " %%EOF");
            Checks.refuses("the end behind " + body, file, 4, file.length());
        }
    }

    private static void here(String body, int... want) {
        House x = at(body);
        for (int what = 0; what < 5; what++) {
            Checks.due(body + ": here(" + what + ")", x.here(what), want[what]);
        }
        Checks.due(body + ": here(5)", x.here(5), -1);
        Checks.due(body + ": here(-1)", x.here(-1), -1);
        if (want[0] != 9) {
            House y = at("<< /Key " + body + " >>");
            Checks.due(body + ": as an entry", y.down(0), want[0]);
            for (int what = 0; what < 5; what++) {
                Checks.due(body + ": as an entry here(" + what + ")", y.here(what), what == 4 ? 3 : want[what]);
            }
            Checks.due(body + ": key", Files.letters(y, true), "Key");
            Checks.due(body + ": behind the key", y.letter(3, true), -1);
            Checks.due(body + ": ahead of the key", y.letter(-1, true), -1);
            boolean text = want[0] == 4 || want[0] == 5;
            Checks.due(body + ": letter", y.letter(0, false) >= 0, text);
            Checks.due(body + ": letter behind", y.letter(want[2], false), -1);
        }
        Checks.due(body + ": no key", x.letter(0, true), -1);
    }

    private static void whatIsHere() {
        here("null", 0, 0, 0, 0, 0);
        here("true", 1, 1, 0, 0, 0);
        here("false", 1, 0, 0, 0, 0);
        here("-17", 2, -17, 0, 0, 0);
        here("-1.5", 3, -98304, 0, 0, 0);
        here("/Abc", 4, 0, 3, 0, 0);
        here("(ab)", 5, 0, 2, 0, 0);
        here("[ 1 2 3 ]", 6, 0, 3, 0, 0);
        here("<< /A 1 /B 2 >>", 7, 0, 2, 0, 0);
        here("7 12 R", 8, 7, 0, 12, 0);
        here("<< /A 1 /Length 2 >> stream\nab\nendstream", 9, 0, 2, 0, 0);
        House x = at("[ 1 ]");
        x.down(0);
        Checks.due("a part has no key", x.here(4), 0);
        Checks.due("nor its letters", x.letter(0, true), -1);
        House y = at("<< / (x) >>");
        y.down(0);
        Checks.due("an empty key", y.here(4), 0);
        Checks.due("has no letter", y.letter(0, true), -1);
        Checks.due("the string has", y.letter(0, false), 'x');
    }

    private static void depthOfTheCursor() {
        House x = at(Files.repeat("[", 20) + "7" + Files.repeat("]", 20));
        for (int i = 1; i < 20; i++) {
            Checks.due("down " + i, x.down(0), 6);
        }
        Checks.due("down 20", x.down(0), 2);
        Checks.due("no further", x.down(0), -1);
        Checks.due("it stays", x.here(1), 7);
        for (int i = 19; i >= 0; i--) {
            Checks.due("up to " + i, x.up(), i);
        }
        Checks.due("at the object", x.up(), -1);
        Checks.due("still there", x.here(0), 6);
    }

    private static void nowhere() {
        House x = Checks.loads("nowhere", file("[ 1 ]"), 0);
        for (int i = 0; i < 3; i++) {
            Checks.due("nowhere: here", x.here(0) + x.here(1) + x.here(2) + x.here(3) + x.here(4), -5);
            Checks.due("nowhere: down", x.down(0), -1);
            Checks.due("nowhere: up", x.up(), -1);
            Checks.due("nowhere: letter", x.letter(0, false), -1);
            Checks.due("nowhere: key", x.letter(0, true), -1);
            x.go(3);
            x.down(0);
            Checks.due("gone astray", x.go(i == 0 ? 4 : i == 1 ? 0 : -1), -1);
        }
        x.go(3);
        x.down(0);
        Checks.due("go begins anew", x.go(3), 6);
        Checks.due("at the object", x.up(), -1);
        Files.load(x, file("[ 1 ]"));
        Checks.due("nowhere behind load", x.here(0), -1);
    }
}
