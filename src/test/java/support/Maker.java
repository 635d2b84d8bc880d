import java.util.ArrayList;
import java.util.Collections;
import java.util.LinkedHashMap;
import java.util.List;
import java.util.Map;
import java.util.Random;
import java.util.TreeMap;
import java.util.TreeSet;
import java.util.zip.Deflater;

/** Makes random files: trees, streams, object streams, sections of both kinds, in random clothes, good ones or spoilt ones. */
final class Maker {
    private static final String[] ODD = {"null", "true", "false", "0", "1", "-1", "2", "90", "-90", "450", "199", "200", "201", "65535", "65536", "32767",
        "32768", "-32768", "-32769", "2147483647", "2147483648", "-2147483648", "-2147483649", "99999999999", "1.5", "-.5", "+7", "3.", "0.0000152",
        "32767.99999", "32768.0", "-32768.00001", "1234567890.5", "0.1234567890", "(x)", "<41 4>", "/X", "/", "[ ]", "<< >>", "1 0 R", "2 0 R", "3 0 R",
        "4 0 R", "5 1 R", "199 65535 R", "200 0 R", "0 0 R", "1 65536 R", "+1 0 R", "1 0", "R", "/Page", "/Pages", "/Catalog", "/Font", "/XRef", "/ObjStm",
        "/FlateDecode", "/ASCIIHexDecode", "[ 1 2 3 4 ]", "[ /FlateDecode ]", "[ 1 1 1 ]", "<< /Type /Page >>", "]", ">>", "[", "<<", ")", "}", "(", "<",
        "/A#4", "/A#00", "/A#20b", "obj", "endobj", "stream", "endstream", "xref", "trailer", "%x\n", "(a\\)b\\\\c\\101\\8)", "(a(b)c)", "1 99999999999 R"};
    private static final String[] BYTES = {"\0", "\n", "\r", "\r\n", " ", "\t", "\f", "(", ")", "<", ">", "[", "]", "{", "}", "/", "%", "#", "\\", "0", "1", "9",
        "+", "-", ".", "R", "f", "n", "x", "\u00ff", "<<", ">>", "\u0080"};

    private final Random random;
    private final Map<Integer, String> bodies = new TreeMap<>();
    private final Map<Integer, String[]> streams = new TreeMap<>();
    private final Map<Integer, Integer> generations = new TreeMap<>();
    private final List<Integer> free = new ArrayList<>();
    private boolean spoils;
    private boolean plain;
    private int deepest;
    private int next = 1;
    private String roots = "";
    private int size;

    Maker(long seed) {
        random = new Random(seed);
    }

    boolean chance(int percent) {
        return random.nextInt(100) < percent;
    }

    int pick(int below) {
        return random.nextInt(below);
    }

    String one(String... all) {
        return all[pick(all.length)];
    }

    // ---- objects

    private int number() {
        int n = next;
        next += chance(90) ? 1 : 1 + pick(3);
        for (int i = n + 1; i < next; i++) {
            free.add(i);
        }
        generations.put(n, chance(90) ? 0 : pick(4));
        return n;
    }

    private String reference(int n) {
        if (chance(94)) {
            return n + " " + generations.get(n) + " R";
        }
        int row = number();
        bodies.put(row, n + " " + generations.get(n) + " R");
        return row + " " + generations.get(row) + " R";
    }

    /** A value as it is, or as an object of its own. */
    private String value(String text) {
        if (chance(90)) {
            return text;
        }
        int n = number();
        bodies.put(n, text);
        return reference(n);
    }

    /** What is about as much as is allowed, or a little more. */
    private String edge() {
        int more = pick(3) - 1;
        switch (pick(6)) {
            case 0:
                return "[".repeat(18 + more) + "]".repeat(18 + more);
            case 1:
                return "<</A".repeat(18 + more) + " 1 " + ">>".repeat(18 + more);
            case 2:
                return "/" + "n".repeat(60 + more);
            case 3:
                return "(" + "s".repeat(2000 + more) + ")";
            case 4:
                return "<< /A 1 /B 2 /" + one("A", "B", "C", "#41", "#42") + " 3 >>";
            default:
                return "<" + "4a".repeat(2000 + more) + one(">", "5>");
        }
    }

    private String some(int depth) {
        if (spoils && chance(4)) {
            return edge();
        }
        switch (pick(depth > 2 ? 6 : 9)) {
            case 0:
                return "" + (pick(4001) - 2000);
            case 1:
                return (pick(401) - 200) + "." + pick(100000);
            case 2:
                return one("null", "true", "false");
            case 3:
                return "/N" + pick(40) + one("", "#20", "#c3#A9", "#2f", "-", "*");
            case 4:
                return one("(text)", "()", "(a \\(b\\) (c))", "<48 65 6c6C6>", "(l1\\\nl2\r\nl3)", "(\\7\\1012\\400\\q)", "<>", "(\u00e9\u00ff\u0080)");
            case 5:
                return free.isEmpty() || chance(70) ? (1 + pick(next)) + " 0 R" : free.get(pick(free.size())) + " " + pick(2) + " R";
            case 6:
                return "[ " + some(depth + 1) + " " + some(depth + 1) + " ]";
            case 7:
                return "<< /A " + some(depth + 1) + " /B " + some(depth + 1) + " >>";
            default:
                return one("[ ]", "<< >>", "-0", "+5", ".5", "-3.", "00012", "0.000007", "[ [ [ ] ] ]");
        }
    }

    private String box() {
        return value("[ " + value("0") + " " + value("" + (pick(20) - 10)) + " " + value((pick(600) + 1) + one("", ".5", ".25", ".")) + " " + (pick(900) + 1) + " ]");
    }

    private void attributes(Map<String, String> dict, boolean must) {
        if (must || chance(20)) {
            dict.put("MediaBox", box());
        }
        if (chance(25)) {
            dict.put("Rotate", value(one("0", "90", "180", "-270", "450", "null")));
        }
        if (chance(30)) {
            dict.put("Resources", resources());
        }
        if (chance(15)) {
            dict.put("Some" + pick(9), some(0));
        }
    }

    private String resources() {
        StringBuilder fonts = new StringBuilder("<< ");
        for (String name : new String[] {"F", "G", "H"}) {
            if (chance(70)) {
                fonts.append('/').append(name).append(' ').append(value(font())).append(' ');
            }
        }
        return value("<< /Font " + value(fonts + ">>") + " >>");
    }

    private String font() {
        int first = pick(100);
        int many = 1 + pick(12);
        StringBuilder widths = new StringBuilder("[ ");
        for (int i = 0; i < many; i++) {
            widths.append(value(pick(1200) + one("", "", ".5", ".125"))).append(' ');
        }
        return "<< /Type /Font /FirstChar " + value("" + first) + " /LastChar " + (first + many - 1) + " /Widths " + value(widths + "]") + " >>";
    }

    private String text(Map<String, String> dict) {
        List<String> keys = new ArrayList<>(dict.keySet());
        if (chance(30)) {
            Collections.shuffle(keys, random);
        }
        StringBuilder all = new StringBuilder("<< ");
        for (String key : keys) {
            all.append('/').append(key).append(' ').append(dict.get(key)).append(' ');
        }
        return all + ">>";
    }

    private int tree(int depth, int parent, int[] below, boolean hasBox) {
        int n = number();
        Map<String, String> dict = new LinkedHashMap<>();
        if (parent != 0) {
            dict.put("Parent", reference(parent));
        }
        if (parent != 0 && (depth > deepest || chance(60))) {
            below[0] = 1;
            dict.put("Type", value("/Page"));
            attributes(dict, !hasBox && chance(98));
            if (chance(50)) {
                dict.put("Contents", contents());
            }
            bodies.put(n, text(dict));
            return n;
        }
        dict.put("Type", value("/Pages"));
        attributes(dict, chance(40));
        StringBuilder kids = new StringBuilder("[ ");
        for (int i = pick(chance(95) ? 5 : 14); i > 0; i--) {
            int[] more = {0};
            kids.append(reference(tree(depth + 1, n, more, hasBox || dict.containsKey("MediaBox")))).append(' ');
            below[0] += more[0];
        }
        dict.put("Kids", value(kids + "]"));
        dict.put("Count", value("" + below[0]));
        bodies.put(n, text(dict));
        return n;
    }

    private String contents() {
        if (chance(60)) {
            return reference(stream(painting(1 + pick(12)), ""));
        }
        StringBuilder all = new StringBuilder("[ ");
        for (int i = pick(4); i > 0; i--) {
            all.append(reference(stream(painting(1 + pick(6)), ""))).append(' ');
        }
        return value(all + "]");
    }

    // ---- contents

    private String amount() {
        switch (pick(8)) {
            case 0:
                return "" + (pick(65536) - 32768);
            case 1:
                return (pick(3000) - 1500) + "." + pick(1000);
            case 2:
                return one("0", "1", "-1", ".5", "-.001", "32767", "-32768", "32767.99998", "0.00001");
            default:
                return "" + (pick(40) - 10);
        }
    }

    private String amounts(int many) {
        StringBuilder all = new StringBuilder();
        for (int i = 0; i < many; i++) {
            all.append(amount()).append(' ');
        }
        return all.toString();
    }

    private String matrix() {
        return chance(80) ? one("1 0 0 1 ", ".5 0 0 .5 ", "2 0 0 -1 ", "0 1 -1 0 ") + amounts(2) : amounts(6);
    }

    private String shown() {
        StringBuilder all = new StringBuilder("(");
        for (int i = pick(6); i > 0; i--) {
            all.append(one("a", "b", "A", " ", "0", "\\(", "\\101", "Z", "\u00ff"));
        }
        return all + ") ";
    }

    private String pieces() {
        StringBuilder all = new StringBuilder("[ ");
        for (int i = pick(5); i > 0; i--) {
            all.append(chance(50) ? shown() : amount() + " ");
        }
        return all + "] ";
    }

    /** Some operators in an order that is good mostly. */
    String painting(int many) {
        StringBuilder all = new StringBuilder();
        boolean inText = false;
        int kept = 0;
        for (int i = 0; i < many; i++) {
            if (chance(2)) {
                all.append(one(ODD)).append(' ');
            }
            if (!inText && chance(40)) {
                all.append("BT ").append(chance(80) ? "/" + one("F", "G", "H") + " " + amount() + " Tf " : "");
                inText = true;
            } else if (inText && chance(15)) {
                all.append("ET ");
                inText = false;
            } else if (!inText && chance(20)) {
                all.append("q ");
                kept++;
            } else if (!inText && kept > 0 && chance(30)) {
                all.append("Q ");
                kept--;
            } else {
                all.append(inText && chance(75) ? inText() : outOfText(inText));
            }
            if (chance(3)) {
                all.append("% a remark ( [\n");
            }
        }
        if (chance(95)) {
            all.append(inText ? "ET " : "").append("Q ".repeat(kept));
        }
        return all.toString();
    }

    private String inText() {
        switch (pick(9)) {
            case 0:
                return amounts(2) + "Td ";
            case 1:
                return amounts(2) + "TD ";
            case 2:
                return matrix() + "Tm ";
            case 3:
                return "T* ";
            case 4:
                return shown() + "' ";
            case 5:
                return pieces() + "TJ ";
            default:
                return shown() + "Tj ";
        }
    }

    private String outOfText(boolean inText) {
        switch (pick(inText ? 8 : 10)) {
            case 0:
                return amounts(1) + one("Tc ", "Tw ", "TL ");
            case 1:
                return "/" + one("F", "G", "H") + " " + amount() + " Tf ";
            case 2:
                return amounts(1) + one("w ", "J ", "j ", "M ", "i ", "g ", "G ");
            case 3:
                return one("h ", "S ", "s ", "f ", "F ", "f* ", "B ", "B* ", "b ", "b* ", "n ", "W ", "W* ");
            case 4:
                return amounts(2) + one("m ", "l ");
            case 5:
                return amounts(4) + one("v ", "y ", "re ", "k ", "K ");
            case 6:
                return amounts(3) + one("rg ", "RG ");
            case 7:
                return chance(50) ? amounts(6) + "c " : pieces() + amounts(1) + "d ";
            default:
                return matrix() + "cm ";
        }
    }

    // ---- streams

    private String flate(String data) {
        if (chance(20)) {
            return Bits.plainCode(data);
        }
        int strategy = chance(33) ? Deflater.DEFAULT_STRATEGY : chance(50) ? Deflater.HUFFMAN_ONLY : Deflater.FILTERED;
        return Files.deflated(data, pick(10), strategy);
    }

    private String hex(String data) {
        StringBuilder all = new StringBuilder();
        for (char c : data.toCharArray()) {
            all.append(String.format(chance(50) ? "%02X" : "%02x", (int) c)).append(chance(3) ? one(" ", "\n", "\t") : "");
        }
        return all + ">" + (chance(10) ? "\r\n " : "");
    }

    private static String predict(String data, int columns, Random random) {
        StringBuilder all = new StringBuilder();
        int[] before = new int[columns + 1];
        for (int at = 0; at < data.length(); at += columns) {
            int kind = random.nextInt(5);
            all.append((char) kind);
            int[] row = new int[columns + 1];
            for (int i = 1; i <= columns; i++) {
                row[i] = data.charAt(at + i - 1);
                int p = row[i - 1] + before[i] - before[i - 1];
                int[] far = {Math.abs(p - row[i - 1]), Math.abs(p - before[i]), Math.abs(p - before[i - 1])};
                int paeth = far[0] <= far[1] && far[0] <= far[2] ? row[i - 1] : far[1] <= far[2] ? before[i] : before[i - 1];
                int[] guess = {0, row[i - 1], before[i], (row[i - 1] + before[i]) / 2, paeth};
                all.append((char) (row[i] - guess[kind] & 255));
            }
            before = row;
        }
        return all.toString();
    }

    /** The entries and the code of a stream with random filters. */
    private String[] coded(String data) {
        int many = chance(50) ? 0 : 1 + pick(chance(80) ? 1 : 3);
        if (many == 0) {
            return new String[] {chance(10) ? "/Filter [ ] " : "", data};
        }
        String code = data;
        List<String> names = new ArrayList<>();
        List<String> parms = new ArrayList<>();
        boolean some = false;
        for (int i = 0; i < many; i++) {
            boolean flate = chance(65);
            String parm = chance(80) ? "null" : "<< >>";
            if (flate && chance(30)) {
                int columns = 1 + pick(12);
                while (code.length() % columns != 0) {
                    columns--;
                }
                code = predict(code, columns, random);
                parm = "<< /Predictor " + (10 + pick(6)) + " /Columns " + columns + one("", " /Colors 1", " /BitsPerComponent 8") + " >>";
            }
            some |= !parm.equals("null");
            code = flate ? flate(code) : hex(code);
            names.add(0, flate ? "/FlateDecode" : "/ASCIIHexDecode");
            parms.add(0, parm);
        }
        if (spoils && chance(12)) {
            code = spoilCode(code, names, parms);
            some = true;
        }
        String filter = many == 1 && chance(70) ? names.get(0) : "[ " + String.join(" ", names) + " ]";
        String with = many == 1 && chance(70) ? parms.get(0) : "[ " + String.join(" ", parms) + " ]";
        return new String[] {"/Filter " + filter + (some || chance(20) ? " /DecodeParms " + with : "") + " ", code};
    }

    /** A stream of about as many bytes as one may have, in few. */
    private void longStream() {
        int n = number();
        String code = Files.deflated(one("a", "b ", "(c)", "\0").repeat(8001).substring(0, 8000 - pick(3) + (chance(20) ? 1 : 0)));
        streams.put(n, new String[] {"<< /Filter /FlateDecode /Length " + code.length() + " >>", code});
    }

    /** Something of what a stream's code is told to be, or of the code itself, becomes another. */
    private String spoilCode(String code, List<String> names, List<String> parms) {
        int i = pick(names.size());
        switch (pick(6)) {
            case 0:
                names.set(i, one("/FlateDecode", "/ASCIIHexDecode", "/LZWDecode", "null", "(x)", "/FlateDecode /ASCIIHexDecode /FlateDecode"));
                return code;
            case 1:
                parms.set(i, one("5", "null null", "", "/X", "[ ]", "<< /Predictor 1 /Columns (x) >>"));
                return code;
            case 2:
                String kind = one("/Predictor " + pick(18), "/Predictor 12 /Columns " + one("0", "1", "200", "201", "-1", "2.0", "null"),
                        "/Predictor 10 /Colors " + pick(3), "/Predictor 15 /BitsPerComponent " + (7 + pick(3)), "/Predictor " + one("12.0", "null", "-10"));
                parms.set(i, "<< " + kind + " >>");
                return code;
            default:
                if (code.isEmpty()) {
                    return ">";
                }
                int at = pick(code.length());
                char other = (char) (chance(50) ? code.charAt(at) ^ 1 << pick(8) : pick(256));
                return chance(10) ? code.substring(0, at) : chance(10) ? code + one("\0", ">", " ") : code.substring(0, at) + other + code.substring(at + 1);
        }
    }

    private int stream(String data, String entries) {
        int n = number();
        String[] coded = coded(data);
        String length = "" + coded[1].length();
        if (chance(15)) {
            int other = number();
            bodies.put(other, length);
            length = other + " " + generations.get(other) + " R";
        }
        streams.put(n, new String[] {"<< " + entries + coded[0] + "/Length " + length + " " + (chance(10) ? "/More " + some(0) + " " : "") + ">>", coded[1]});
        return n;
    }

    // ---- clothes

    private String blank() {
        return chance(85) ? " " : one("\n", "\r", "\t", "\f", "\0", "  ", "\r\n", "%x\n", " % (\r");
    }

    /** Tokens told apart by single blanks get other white, or none where none must be; what is within strings stays. */
    private String dress(String text) {
        if (plain) {
            return text;
        }
        StringBuilder all = new StringBuilder();
        int nested = 0;
        for (int i = 0; i < text.length(); i++) {
            char c = text.charAt(i);
            if (nested > 0 && c == '\\') {
                all.append(c).append(i + 1 < text.length() ? text.charAt(i + 1) : "");
                i++;
                continue;
            }
            nested += c == '(' ? 1 : c == ')' && nested > 0 ? -1 : 0;
            if (c != ' ' || nested > 0 || i == 0 || i + 1 == text.length()) {
                all.append(c);
                continue;
            }
            boolean apart = "()<>[]/".indexOf(text.charAt(i - 1)) >= 0 && text.charAt(i - 1) != '/' || "()<>[]/".indexOf(text.charAt(i + 1)) >= 0;
            all.append(apart && chance(15) ? "" : blank());
        }
        return all.toString();
    }

    /** Some token becomes another one. */
    private String spoil(String text) {
        String[] tokens = text.split(" ", -1);
        int at = pick(tokens.length);
        switch (pick(6)) {
            case 0:
                tokens[at] = "";
                break;
            case 1:
                tokens[at] = tokens[at] + " " + tokens[at];
                break;
            case 2:
                tokens[at] = tokens[pick(tokens.length)];
                break;
            default:
                tokens[at] = one(ODD);
        }
        return String.join(" ", tokens);
    }

    private String spoiltNow(String text, int percent) {
        return spoils && chance(percent) ? spoil(text) : text;
    }

    // ---- the file

    private StringBuilder file;

    /** What a section tells of an object: {number, kind, second, third}. */
    private List<int[]> told;

    private void place(int n) {
        told.add(new int[] {n, 1, file.length(), generations.get(n)});
        file.append(chance(5) ? blank() : "");
        if (streams.containsKey(n)) {
            String[] stream = streams.get(n);
            file.append(dress(spoiltNow(n + " " + generations.get(n) + " obj " + stream[0] + " stream", 8)));
            file.append(chance(30) ? "\r\n" : "\n").append(stream[1]).append(one("\n", "\r\n", "\r", "", " ", "\n% x\n"));
            file.append(dress("endstream endobj")).append(one("\n", " ", "\r\n"));
        } else {
            file.append(dress(spoiltNow(n + " " + generations.get(n) + " obj " + bodies.get(n) + " endobj", 4))).append(one("\n", " ", "\r\n", "%\r"));
        }
    }

    /** An object stream of these objects. */
    private void placeInside(List<Integer> all) {
        int holder = number();
        generations.put(holder, 0);
        size = Math.max(size, holder + 1);
        StringBuilder pairs = new StringBuilder();
        StringBuilder data = new StringBuilder();
        for (int i = 0; i < all.size(); i++) {
            int n = all.get(i);
            generations.put(n, 0);
            pairs.append(n).append(blank()).append(data.length()).append(blank());
            data.append(dress(spoiltNow(bodies.get(n), 4))).append(one(" ", "\n"));
            told.add(new int[] {n, 2, holder, i});
        }
        String[] coded = coded(pairs.toString() + data);
        String entries = "/Type /ObjStm /N " + all.size() + " /First " + pairs.length() + " ";
        streams.put(holder, new String[] {spoiltNow("<< " + entries + coded[0] + "/Length " + coded[1].length() + " >>", 5), coded[1]});
        place(holder);
    }

    private String table(List<int[]> all, String trailer) {
        StringBuilder text = new StringBuilder("xref" + one("\n", " ", "\r\n"));
        all.sort((one, other) -> one[0] - other[0]);
        int i = 0;
        if (all.isEmpty()) {
            text.append("0 0\n");
        }
        while (i < all.size()) {
            int behind = i + 1;
            while (behind < all.size() && all.get(behind)[0] == all.get(behind - 1)[0] + 1 && chance(90)) {
                behind++;
            }
            text.append(spoiltNow(all.get(i)[0] + " " + (behind - i), 2)).append(one("\n", " \n", "\r\n", "\r"));
            for (; i < behind; i++) {
                int[] entry = all.get(i);
                String line = String.format("%010d %05d ", entry[1] == 1 ? entry[2] : 0, entry[1] == 1 ? entry[3] : pick(65536)) + (entry[1] == 1 ? "n" : "f");
                text.append(line).append(one(" \n", "\r\n", " \r"));
            }
            text.append(chance(10) ? " \n" : "");
        }
        return text + (chance(5) ? "% x\n" : "") + dress("trailer " + spoiltNow(trailer, 6)) + one("\n", " ", "");
    }

    private String rows(List<int[]> all, String trailer, int own) {
        if (chance(80)) {
            all.sort((one, other) -> one[0] - other[0]);
        }
        int[] w = {chance(80) ? 1 : 2 + pick(3), 2 + pick(3), 1 + pick(4)};
        StringBuilder index = new StringBuilder();
        StringBuilder data = new StringBuilder();
        for (int i = 0; i < all.size(); i++) {
            int first = i;
            while (i + 1 < all.size() && all.get(i + 1)[0] == all.get(i)[0] + 1 && chance(95)) {
                i++;
            }
            index.append(all.get(first)[0]).append(' ').append(i - first + 1).append(' ');
        }
        for (int[] entry : all) {
            for (int k = 0; k < 3; k++) {
                for (int b = w[k] - 1; b >= 0; b--) {
                    data.append((char) (b > 3 ? 0 : entry[k + 1] >> 8 * b & 255));
                }
            }
        }
        String[] coded = coded(data.toString());
        boolean ordered = true;
        for (int i = 0; i < all.size(); i++) {
            ordered &= all.get(i)[0] == i;
        }
        boolean without = ordered && trailer.contains("/Size " + all.size() + " ");
        String dict = trailer.substring(0, trailer.length() - 2) + "/Type /XRef /W [ " + w[0] + " " + w[1] + " " + w[2] + " ] "
                + (without && chance(70) ? "" : "/Index [ " + index + "] ") + coded[0] + "/Length " + coded[1].length() + " >>";
        return dress(own + " 0 obj " + spoiltNow(dict, 8) + " stream") + one("\n", "\r\n") + coded[1] + one("\n", "\r\n", "") + dress("endstream endobj") + "\n";
    }

    private int section(List<Integer> numbers, int prev, boolean newest) {
        told = new ArrayList<>();
        boolean ofRows = chance(50);
        List<Integer> inside = new ArrayList<>();
        List<Integer> placed = new ArrayList<>(numbers);
        Collections.shuffle(placed, random);
        if (ofRows) {
            for (int n : numbers) {
                if (bodies.containsKey(n) && generations.get(n) == 0 && chance(40)) {
                    inside.add(n);
                    placed.remove((Integer) n);
                }
            }
        }
        if (!inside.isEmpty()) {
            placeInside(inside);
        }
        placed.forEach(this::place);
        if (chance(80)) {
            told.add(new int[] {0, 0, 0, 65535});
        }
        for (int n : free) {
            if (chance(50)) {
                told.add(new int[] {n, 0, 0, 1});
            }
        }
        file.append(chance(10) ? " " : "");
        int begin = file.length();
        int own = ofRows ? Math.min(199, next + pick(3)) : 0;
        if (ofRows && chance(80)) {
            next = Math.max(next, own + 1);
            size = Math.max(size, own + 1);
            generations.put(own, 0);
            told.add(new int[] {own, 1, begin, 0});
        }
        int least = size;
        for (int[] entry : told) {
            least = Math.max(least, entry[0] + 1);
        }
        size = least;
        String trailer = "<< /Size " + (newest && chance(10) ? size + pick(5) : size) + " " + (newest || chance(30) ? roots : "/Root 7 0 R ")
                + (prev >= 0 || spoils && chance(2) ? "/Prev " + (spoils && chance(2) ? file.length() - pick(3) : prev) + " " : "") + (chance(10) ? "/Some " + some(0) + " " : "") + ">>";
        file.append(ofRows ? rows(told, trailer, own) : table(told, trailer));
        return begin;
    }

    /** A whole file. */
    String file() {
        spoils = chance(50);
        plain = chance(30);
        deepest = chance(97) ? 4 : 22;
        file = new StringBuilder("%PDF-1." + pick(8) + one("\n", "\r\n", "\n%\u00e2\u00e3\n", " "));
        int root = number();
        int top = tree(1, 0, new int[1], false);
        bodies.put(root, "<< /Type " + value("/Catalog") + " /Pages " + reference(top) + (chance(20) ? " /Some " + some(0) : "") + " >>");
        roots = "/Root " + reference(root) + " ";
        if (chance(40)) {
            int info = number();
            bodies.put(info, one("<< >>", "<< /Title (old) >>", "<< /Subject <41> /Author 3 0 R >>"));
            roots += "/Info " + reference(info) + " ";
        }
        for (int i = pick(4); i > 0; i--) {
            bodies.put(number(), some(0));
        }
        if (chance(20)) {
            stream(Files.noise(pick(300), pick(100)), "/Kind /Noise ");
        }
        for (int i = spoils && chance(8) ? 1 + pick(6) : 0; i > 0; i--) {
            longStream();
        }
        size = next;
        List<Integer> all = new ArrayList<>(new TreeSet<>(bodies.keySet()));
        all.addAll(streams.keySet());
        int begin = -1;
        int many = chance(60) ? 1 : 1 + pick(chance(95) ? 4 : 11);
        for (int i = many; i > 0; i--) {
            List<Integer> some = new ArrayList<>();
            for (int n : new ArrayList<>(all)) {
                if (i == 1 || chance(60)) {
                    some.add(n);
                    all.remove((Integer) n);
                }
            }
            begin = section(some, begin, i == 1);
        }
        file.append(spoiltNow("startxref", 1)).append(one("\n", "\r\n", " ")).append(spoiltNow("" + begin, 1)).append(one("\n", "\r\n", " ")).append("%%EOF")
                .append(one("\n", "", "\r\n", " \t"));
        String text = file.toString();
        int wrong = spoils && chance(40) ? 1 + pick(2) : 0;
        for (int i = 0; i < wrong; i++) {
            text = spoilByte(text);
        }
        return text;
    }

    private String spoilByte(String text) {
        int at = pick(text.length());
        int behind = Math.min(text.length(), at + 1 + pick(chance(70) ? 1 : 12));
        if (chance(60)) {
            // What is as long keeps all places.
            String other = one(one(ODD), one(BYTES));
            return at + other.length() > text.length() ? text : text.substring(0, at) + other + text.substring(at + other.length());
        }
        switch (pick(5)) {
            case 0:
                return text.substring(0, at) + text.substring(behind);
            case 1:
                return text.substring(0, at) + one(BYTES) + text.substring(at);
            case 2:
                return text.substring(0, behind) + text.substring(at);
            case 3:
                return text.substring(0, at) + " " + one(ODD) + " " + text.substring(behind);
            default:
                return text.substring(0, at) + one(BYTES) + text.substring(at + 1);
        }
    }
}
