import java.math.BigDecimal;
import java.math.BigInteger;
import java.math.RoundingMode;
import java.util.ArrayList;
import java.util.Arrays;
import java.util.HashMap;
import java.util.HashSet;
import java.util.List;
import java.util.Map;
import java.util.Set;
import java.util.TreeMap;
import java.util.TreeSet;
import java.util.regex.Matcher;
import java.util.regex.Pattern;
import java.util.zip.Adler32;
import java.util.zip.DataFormatException;
import java.util.zip.Inflater;

/**
 * A second house, written from the document with texts, large numbers and exceptions: what it answers is due of
 * the class, too. Where the words are unclear it takes the readings that NOTES.md lists.
 */
final class Model {
    private static final int NONE = -1;
    private static final Pattern NUMBER = Pattern.compile("[+-]?([0-9]+\\.?[0-9]*|\\.[0-9]+)");
    private static final Pattern ENTRY = Pattern.compile("([0-9]{10}) ([0-9]{5}) ([nf])( \r| \n|\r\n)");

    /** What is wrong, and where. */
    private static final class Wrong extends RuntimeException {
        final int fault;
        final int place;

        Wrong(int fault, int place) {
            super(null, null, false, false);
            this.fault = fault;
            this.place = place;
        }
    }

    /** An object of a kind (0 to 8, as go() tells it); of an entry the key is its name. */
    private static final class Item {
        final int kind;
        final long value;
        final int generation;
        final String text;
        final List<Item> parts = new ArrayList<>();
        String key;

        Item(int kind, long value, int generation, String text) {
            this.kind = kind;
            this.value = value;
            this.generation = generation;
            this.text = text;
        }

        static Item whole(long value) {
            return new Item(2, value, 0, "");
        }

        static Item name(String text) {
            return new Item(4, 0, 0, text);
        }

        Item named(String name) {
            key = name;
            return this;
        }

        Item copy() {
            Item other = new Item(kind, value, generation, text);
            other.parts.addAll(parts);
            return other;
        }

        Item entry(String name) {
            if (kind == 7) {
                for (Item part : parts) {
                    if (part.key.equals(name)) {
                        return part;
                    }
                }
            }
            return null;
        }

        boolean isName(String name) {
            return kind == 4 && text.equals(name);
        }

        boolean isNumber() {
            return kind == 3 || kind == 2 && value >= -32768 && value <= 32767;
        }

        long units() {
            return kind == 3 ? value : value * 65536;
        }
    }

    private static final Item NULL = new Item(0, 0, 0, "");

    /** Where an object is: at a place with a generation, or as one of those in an object stream. */
    private static final class Entry {
        final boolean inside;
        final long place;
        final long generation;

        Entry(boolean inside, long place, long generation) {
            this.inside = inside;
            this.place = place;
            this.generation = generation;
        }
    }

    private String tape = "";
    private String out = "";
    private boolean open;
    private int loadFault;
    private int loadPlace = NONE;
    private int showFault;
    private int showPlace = NONE;

    private String file = "";
    private int objectsRead;
    private int lettersRead;
    private Map<Integer, Entry> entries = new TreeMap<>();
    private Map<Integer, Item> items = new TreeMap<>();
    private Map<Integer, String> streams = new HashMap<>();
    private Map<Integer, Integer> generations = new HashMap<>();
    private List<Integer> sections = new ArrayList<>();
    private Set<Integer> waiting = new HashSet<>();
    private Item trailer;
    private boolean inRows;
    private int size;
    private int sizeRead;
    private int root;
    private int info;
    private Set<Integer> named = new HashSet<>();
    private TreeSet<Integer> changed = new TreeSet<>();
    private int firstNode;
    private List<Integer> pages = new ArrayList<>();
    private Map<Integer, Integer> above = new HashMap<>();
    private List<long[]> glyphs = new ArrayList<>();
    private List<Item> path = new ArrayList<>();
    private int standing;

    // ---- bytes and tokens

    private static boolean isWhite(char c) {
        return c == 0 || c == 9 || c == 10 || c == 12 || c == 13 || c == 32;
    }

    private static boolean isRegular(char c) {
        return !isWhite(c) && "()<>[]{}/%".indexOf(c) < 0;
    }

    private static int blanks(String s, int p) {
        int q = p;
        while (q < s.length() && isWhite(s.charAt(q))) {
            q++;
        }
        return q;
    }

    private static int white(String s, int p) {
        int q = blanks(s, p);
        while (q < s.length() && s.charAt(q) == '%') {
            while (q < s.length() && s.charAt(q) != 10 && s.charAt(q) != 13) {
                q++;
            }
            q = blanks(s, q);
        }
        return q;
    }

    private static String row(String s, int p) {
        int q = p;
        while (q < s.length() && isRegular(s.charAt(q))) {
            q++;
        }
        return s.substring(Math.min(p, s.length()), q);
    }

    private static boolean isWholeNumber(BigInteger number) {
        return number.bitLength() < 32;
    }

    /** A whole without a sign, or below 0: the row is none. */
    private static long plainWhole(String row) {
        if (!row.matches("[0-9]+") || !isWholeNumber(new BigInteger(row))) {
            return NONE;
        }
        return Long.parseLong(new BigInteger(row).toString());
    }

    /** The number that a row is; null: it is beyond. */
    private static Item number(String row) {
        if (row.indexOf('.') < 0) {
            BigInteger number = new BigInteger(row.charAt(0) == '+' ? row.substring(1) : row);
            return isWholeNumber(number) ? Item.whole(number.longValue()) : null;
        }
        String digits = row.charAt(0) == '+' || row.charAt(0) == '-' ? row.substring(1) : row;
        int point = digits.indexOf('.');
        if (point > 9 || digits.length() - point - 1 > 9) {
            return null;
        }
        BigDecimal size = new BigDecimal("0" + digits + "0").multiply(BigDecimal.valueOf(65536)).setScale(0, RoundingMode.HALF_UP);
        BigInteger units = row.charAt(0) == '-' ? size.toBigInteger().negate() : size.toBigInteger();
        return isWholeNumber(units) ? new Item(3, units.longValue(), 0, "") : null;
    }

    /** Reads objects from a text, and keeps to the limits of what is read together. */
    private final class Reader {
        private final String s;
        private final boolean withReferences;
        int p;

        Reader(String s, int p, boolean withReferences) {
            this.s = s;
            this.p = p;
            this.withReferences = withReferences;
        }

        private Item count(Item item, int start) {
            objectsRead++;
            lettersRead += item.text.length();
            if (objectsRead > 6000 || lettersRead > 60000) {
                throw new Wrong(5, start);
            }
            return item;
        }

        Item object(int opened) {
            p = white(s, p);
            int start = p;
            if (p == s.length()) {
                throw new Wrong(4, start);
            }
            char c = s.charAt(p);
            if (c == '[' || s.startsWith("<<", p)) {
                if (opened == 20) {
                    throw new Wrong(5, start);
                }
                return c == '[' ? array(opened) : dict(opened);
            }
            if (c == '/') {
                return count(Item.name(name()), start);
            }
            if (c == '(' || c == '<') {
                return count(new Item(5, 0, 0, string()), start);
            }
            return plain();
        }

        private Item array(int opened) {
            Item all = count(new Item(6, 0, 0, ""), p);
            p = white(s, p + 1);
            while (!s.startsWith("]", p)) {
                all.parts.add(object(opened + 1));
                p = white(s, p);
            }
            p++;
            return all;
        }

        private Item dict(int opened) {
            Item all = count(new Item(7, 0, 0, ""), p);
            p = white(s, p + 2);
            while (!s.startsWith(">>", p)) {
                int start = p;
                if (!s.startsWith("/", p)) {
                    throw new Wrong(isBeyond() ? 5 : 4, start);
                }
                String key = count(Item.name(name()), start).text;
                if (all.entry(key) != null) {
                    throw new Wrong(5, start);
                }
                all.parts.add(object(opened + 1).named(key));
                p = white(s, p);
            }
            p += 2;
            return all;
        }

        /** Whether a number or string stands here that is beyond. */
        private boolean isBeyond() {
            if (s.startsWith("(", p) || s.startsWith("<", p) && !s.startsWith("<<", p)) {
                try {
                    string();
                    return false;
                } catch (Wrong wrong) {
                    return wrong.fault == 5;
                }
            }
            String row = row(s, p);
            return NUMBER.matcher(row).matches() && number(row) == null;
        }

        private Item plain() {
            int start = p;
            String row = row(s, p);
            p += row.length();
            switch (row) {
                case "null":
                    return count(new Item(0, 0, 0, ""), start);
                case "true":
                case "false":
                    return count(new Item(1, row.equals("true") ? 1 : 0, 0, ""), start);
                default:
                    if (!NUMBER.matcher(row).matches()) {
                        throw new Wrong(4, start);
                    }
            }
            Item number = number(row);
            if (number == null) {
                throw new Wrong(5, start);
            }
            if (withReferences && plainWhole(row) >= 0) {
                int second = white(s, p);
                String other = row(s, second);
                int third = white(s, second + other.length());
                if (plainWhole(other) >= 0 && row(s, third).equals("R")) {
                    if (number.value < 1 || number.value > 199 || plainWhole(other) > 65535) {
                        throw new Wrong(5, start);
                    }
                    p = third + 1;
                    return count(new Item(8, number.value, (int) plainWhole(other), ""), start);
                }
            }
            return count(number, start);
        }

        private String name() {
            int start = p;
            String row = row(s, p + 1);
            p += 1 + row.length();
            StringBuilder name = new StringBuilder();
            for (int i = 0; i < row.length(); i++) {
                char c = row.charAt(i);
                if (c == '#') {
                    String digits = row.substring(i + 1, Math.min(row.length(), i + 3));
                    if (!digits.matches("[0-9A-Fa-f]{2}") || digits.equals("00")) {
                        throw new Wrong(4, start);
                    }
                    c = (char) Integer.parseInt(digits, 16);
                    i += 2;
                }
                name.append(c);
            }
            if (name.length() > 60) {
                throw new Wrong(5, start);
            }
            return name.toString();
        }

        private String string() {
            int start = p;
            String text = s.charAt(p) == '(' ? round() : hexadecimal();
            if (text == null) {
                throw new Wrong(4, start);
            }
            if (text.length() > 2000) {
                throw new Wrong(5, start);
            }
            return text;
        }

        private String hexadecimal() {
            int end = s.indexOf('>', p);
            if (end < 0) {
                return null;
            }
            StringBuilder digits = new StringBuilder();
            for (char c : s.substring(p + 1, end).toCharArray()) {
                if (!isWhite(c)) {
                    digits.append(c);
                }
            }
            p = end + 1;
            return fromDigits(digits.toString());
        }

        private String round() {
            StringBuilder text = new StringBuilder();
            int nested = 0;
            int q = p + 1;
            while (q < s.length()) {
                char c = s.charAt(q);
                int lineEnd = s.startsWith("\r\n", q) ? 2 : c == 10 || c == 13 ? 1 : 0;
                if (lineEnd > 0) {
                    text.append('\n');
                    q += lineEnd;
                } else if (c == '\\') {
                    q = escape(q + 1, text);
                } else if (c == ')' && nested == 0) {
                    p = q + 1;
                    return text.toString();
                } else {
                    nested += c == '(' ? 1 : c == ')' ? -1 : 0;
                    text.append(c);
                    q++;
                }
            }
            return null;
        }

        private int escape(int q, StringBuilder text) {
            if (q >= s.length()) {
                return q;
            }
            int meant = "nrtbf()\\".indexOf(s.charAt(q));
            if (meant >= 0) {
                text.append("\n\r\t\b\f()\\".charAt(meant));
                return q + 1;
            }
            Matcher octal = Pattern.compile("[0-7]{1,3}").matcher(s).region(q, s.length());
            if (octal.lookingAt()) {
                text.append((char) (Integer.parseInt(octal.group(), 8) & 255));
                return octal.end();
            }
            return s.startsWith("\r\n", q) ? q + 2 : s.charAt(q) == 10 || s.charAt(q) == 13 ? q + 1 : q;
        }
    }

    /** What hexadecimal digits tell, a last one alone as the higher half; null: there is another sign. */
    private static String fromDigits(String digits) {
        if (!digits.matches("[0-9A-Fa-f]*")) {
            return null;
        }
        String even = digits.length() % 2 == 0 ? digits : digits + "0";
        StringBuilder text = new StringBuilder();
        for (int i = 0; i < even.length(); i += 2) {
            text.append((char) Integer.parseInt(even.substring(i, i + 2), 16));
        }
        return text.toString();
    }

    // ---- the tape

    int feed(int a, int b, int c, int d, int e) {
        if (tape.length() > 7980) {
            return NONE;
        }
        StringBuilder more = new StringBuilder(tape);
        for (int number : new int[] {a, b, c, d, e}) {
            for (int shift = 24; shift >= 0; shift -= 8) {
                more.append((char) (number >> shift & 255));
            }
        }
        tape = more.toString();
        return tape.length();
    }

    /** The tape becomes a text, as if it was fed and cut. */
    void lay(String text) {
        tape = text;
    }

    int cut(int n) {
        if (n < 0 || n > tape.length()) {
            return NONE;
        }
        int went = tape.length() - n;
        tape = tape.substring(0, n);
        return went;
    }

    // ---- reading

    int load() {
        file = tape;
        tape = "";
        open = false;
        loadFault = 0;
        loadPlace = NONE;
        showFault = 0;
        showPlace = NONE;
        objectsRead = 0;
        lettersRead = 0;
        entries = new TreeMap<>();
        items = new TreeMap<>();
        streams = new HashMap<>();
        generations = new HashMap<>();
        sections = new ArrayList<>();
        waiting = new HashSet<>();
        named = new HashSet<>();
        changed = new TreeSet<>();
        pages = new ArrayList<>();
        above = new HashMap<>();
        glyphs = new ArrayList<>();
        path = new ArrayList<>();
        try {
            long begin = start();
            while (begin >= 0) {
                begin = section(begin);
            }
            entries.keySet().removeIf(n -> n == 0 || n >= size || entries.get(n) == null);
            for (int n : entries.keySet()) {
                read(n);
            }
            items.values().forEach(this::nameAll);
            nameAll(trailer);
            tree();
            open = true;
            return pages.size();
        } catch (Wrong wrong) {
            loadFault = wrong.fault;
            loadPlace = wrong.place;
            return -100 - loadFault;
        }
    }

    private void nameAll(Item item) {
        if (item.kind == 8) {
            named.add((int) item.value);
        }
        item.parts.forEach(this::nameAll);
    }

    private int passes(String text, int from, int fault) {
        for (int i = 0; i < text.length(); i++) {
            if (from + i >= file.length() || file.charAt(from + i) != text.charAt(i)) {
                throw new Wrong(fault, from + i);
            }
        }
        return from + text.length();
    }

    private long start() {
        int p = passes("%PDF-1.", 0, 1);
        if (p >= file.length() || "01234567".indexOf(file.charAt(p)) < 0) {
            throw new Wrong(1, p);
        }
        int last = file.lastIndexOf("startxref");
        if (last < 0) {
            throw new Wrong(2, file.length());
        }
        int begin = someBlanks(last + 9);
        Matcher digits = Pattern.compile("[0-9]+").matcher(file).region(begin, file.length());
        if (!digits.lookingAt() || plainWhole(digits.group()) < 0) {
            throw new Wrong(2, begin);
        }
        int end = blanks(file, passes("%%EOF", someBlanks(digits.end()), 2));
        if (end < file.length()) {
            throw new Wrong(2, end);
        }
        return plainWhole(digits.group());
    }

    private int someBlanks(int p) {
        int q = blanks(file, p);
        if (q == p) {
            throw new Wrong(2, p);
        }
        return q;
    }

    private long section(long begin) {
        if (sections.contains((int) begin)) {
            throw new Wrong(3, (int) begin);
        }
        int at = (int) Math.min(begin, file.length());
        if (sections.size() == 10) {
            throw new Wrong(5, at);
        }
        if (at == file.length()) {
            throw new Wrong(3, at);
        }
        sections.add(at);
        Map<Integer, Entry> told = new HashMap<>();
        boolean ofRows = !row(file, at).equals("xref");
        Item dict = ofRows ? rowStream(at, told) : table(at, told);
        told.forEach((n, entry) -> {
            if (!entries.containsKey(n)) {
                entries.put(n, entry);
            }
        });
        if (dict.entry("Encrypt") != null || dict.entry("XRefStm") != null) {
            throw new Wrong(9, at);
        }
        long howMany = whole(dict.entry("Size"));
        if (howMany > 200) {
            throw new Wrong(5, at);
        }
        Item prev = dict.entry("Prev");
        if (howMany < 1 || told.keySet().stream().anyMatch(n -> n >= howMany) || prev != null && whole(prev) < 0) {
            throw new Wrong(3, at);
        }
        if (trailer == null || sections.size() == 1) {
            trailer = dict;
            inRows = ofRows;
            size = (int) howMany;
            sizeRead = size;
        }
        return whole(prev);
    }

    /** A whole of 0 or more that stands there itself; below 0: it is something else. */
    private static long whole(Item item) {
        return item != null && item.kind == 2 ? Math.max(NONE, item.value) : NONE;
    }

    private static boolean isAbove200(String first, String many) {
        return new BigInteger(first).add(new BigInteger(many)).compareTo(BigInteger.valueOf(200)) > 0;
    }

    private Item table(int begin, Map<Integer, Entry> told) {
        int p = begin + 4;
        boolean some = false;
        while (true) {
            int q = blanks(file, p);
            String first = row(file, q);
            if (some && !first.matches("[0-9]+")) {
                break;
            }
            q = blanks(file, q + first.length());
            String many = row(file, q);
            if (!first.matches("[0-9]+") || !many.matches("[0-9]+")) {
                throw new Wrong(3, begin);
            }
            if (isAbove200(first, many)) {
                throw new Wrong(5, begin);
            }
            q += many.length();
            q += file.startsWith(" ", q) ? 1 : 0;
            int lineEnd = file.startsWith("\r\n", q) ? 2 : file.startsWith("\r", q) || file.startsWith("\n", q) ? 1 : 0;
            if (lineEnd == 0) {
                throw new Wrong(3, begin);
            }
            p = entriesOf(q + lineEnd, Integer.parseInt(first), Integer.parseInt(many), told);
            some = true;
        }
        p = white(file, p);
        if (!row(file, p).equals("trailer")) {
            throw new Wrong(3, begin);
        }
        Item dict = new Reader(file, p + 7, true).object(0);
        if (dict.kind != 7) {
            throw new Wrong(3, begin);
        }
        return dict;
    }

    private int entriesOf(int from, int first, int many, Map<Integer, Entry> told) {
        int p = from;
        for (int n = first; n < first + many; n++) {
            Matcher matcher = ENTRY.matcher(file).region(p, file.length());
            if (!matcher.lookingAt()) {
                throw new Wrong(3, p);
            }
            boolean free = matcher.group(3).equals("f");
            tell(told, n, free ? null : new Entry(false, Long.parseLong(matcher.group(1)), Long.parseLong(matcher.group(2))));
            p += 20;
        }
        return p;
    }

    private static void tell(Map<Integer, Entry> told, int n, Entry entry) {
        if (!told.containsKey(n)) {
            told.put(n, entry);
        }
    }

    private Item rowStream(int begin, Map<Integer, Entry> told) {
        Wrong wrong = new Wrong(3, begin);
        int p = white(file, begin);
        String number = row(file, p);
        p = white(file, p + number.length());
        String generation = row(file, p);
        p = white(file, p + generation.length());
        if (plainWhole(number) < 1 || plainWhole(number) > 199 || plainWhole(generation) != 0 || !row(file, p).equals("obj")) {
            throw wrong;
        }
        Reader reader = new Reader(file, p + 3, true);
        Item dict = reader.object(0);
        p = white(file, reader.p);
        if (dict.kind != 7 || !row(file, p).equals("stream")) {
            throw wrong;
        }
        int body = bodyAt(p + 6);
        long length = whole(dict.entry("Length"));
        if (body < 0 || length < 0 || !endsAt(body + length) || dict.entry("Type") == null || !dict.entry("Type").isName("XRef")) {
            throw wrong;
        }
        String data = decode(dict, file.substring(body, body + (int) length), begin);
        Item widths = dict.entry("W");
        if (widths == null || widths.kind != 6 || widths.parts.size() != 3) {
            throw wrong;
        }
        int[] w = new int[3];
        for (int i = 0; i < 3; i++) {
            w[i] = (int) Math.min(5, whole(widths.parts.get(i)));
            if (w[i] < 0 || w[i] > 4) {
                throw wrong;
            }
        }
        List<Long> index = indexOf(dict, wrong);
        int at = 0;
        for (int i = 0; i < index.size(); i += 2) {
            if (isAbove200("" + index.get(i), "" + index.get(i + 1))) {
                throw new Wrong(5, begin);
            }
            for (int n = index.get(i).intValue(); n < index.get(i) + index.get(i + 1); n++) {
                if (at + w[0] + w[1] + w[2] > data.length()) {
                    throw wrong;
                }
                long kind = w[0] == 0 ? 1 : unsigned(data.substring(at, at + w[0]));
                long second = unsigned(data.substring(at + w[0], at + w[0] + w[1]));
                at += w[0] + w[1] + w[2];
                long third = unsigned(data.substring(at - w[2], at));
                if (kind > 2) {
                    throw wrong;
                }
                tell(told, n, kind == 0 ? null : new Entry(kind == 2, second, third));
            }
        }
        if (at < data.length()) {
            throw wrong;
        }
        return dict;
    }

    private static List<Long> indexOf(Item dict, Wrong wrong) {
        Item index = dict.entry("Index");
        if (index == null) {
            if (whole(dict.entry("Size")) < 0) {
                throw wrong;
            }
            return List.of(0L, whole(dict.entry("Size")));
        }
        List<Long> all = new ArrayList<>();
        for (Item part : index.parts) {
            all.add(whole(part));
        }
        if (index.kind != 6 || all.size() % 2 != 0 || all.stream().anyMatch(number -> number < 0)) {
            throw wrong;
        }
        return all;
    }

    private static long unsigned(String bytes) {
        long number = 0;
        for (char c : bytes.toCharArray()) {
            number = number << 8 | c;
        }
        return number;
    }

    /** Where a stream's bytes begin, behind its word; below 0: nowhere. */
    private int bodyAt(int p) {
        return file.startsWith("\r\n", p) ? p + 2 : file.startsWith("\n", p) ? p + 1 : NONE;
    }

    private boolean endsAt(long p) {
        if (p > file.length()) {
            return false;
        }
        int q = white(file, (int) p);
        if (!row(file, q).equals("endstream")) {
            return false;
        }
        return row(file, white(file, q + 9)).equals("endobj");
    }

    // ---- all objects

    private void read(int n) {
        if (items.containsKey(n)) {
            return;
        }
        Entry entry = entries.get(n);
        if (entry.inside) {
            readInside(n, entry);
        } else {
            readAt(n, entry);
        }
    }

    private int clip(long place) {
        return (int) Math.min(place, file.length());
    }

    private void readAt(int n, Entry entry) {
        Wrong wrong = new Wrong(6, clip(entry.place));
        int p = white(file, clip(entry.place));
        String number = row(file, p);
        p = white(file, p + number.length());
        String generation = row(file, p);
        p = white(file, p + generation.length());
        if (plainWhole(number) != n || plainWhole(generation) != entry.generation || !row(file, p).equals("obj")) {
            throw wrong;
        }
        Reader reader = new Reader(file, p + 3, true);
        Item item = reader.object(0);
        p = white(file, reader.p);
        String word = row(file, p);
        generations.put(n, (int) entry.generation);
        if (item.kind != 7 || !word.equals("stream")) {
            if (!word.equals("endobj")) {
                throw wrong;
            }
            items.put(n, item);
            return;
        }
        int body = bodyAt(p + 6);
        if (body < 0) {
            throw wrong;
        }
        long length = lengthOf(n, item.entry("Length"), wrong);
        if (length < 0 || !endsAt(body + length)) {
            throw wrong;
        }
        String data = decode(item, file.substring(body, body + (int) length), clip(entry.place));
        streams.put(n, data);
        if (bytesOfStreams() > 40000) {
            throw new Wrong(8, clip(entry.place));
        }
        items.put(n, item);
    }

    private int bytesOfStreams() {
        return streams.values().stream().mapToInt(String::length).sum();
    }

    private long lengthOf(int n, Item told, Wrong wrong) {
        if (told == null || told.kind != 8) {
            return whole(told);
        }
        waiting.add(n);
        int other = (int) told.value;
        Entry entry = entries.get(other);
        if (entry == null || entry.inside || entry.generation != told.generation || waiting.contains(other)) {
            throw wrong;
        }
        read(other);
        waiting.remove(n);
        return whole(items.get(other));
    }

    private void readInside(int n, Entry entry) {
        Entry holder = entry.place < 200 ? entries.get((int) entry.place) : null;
        Wrong wrong = new Wrong(6, holder == null || holder.inside ? file.length() : clip(holder.place));
        if (holder == null || holder.inside || holder.generation != 0) {
            throw wrong;
        }
        int of = (int) entry.place;
        read(of);
        Item dict = items.get(of);
        String data = streams.get(of);
        if (data == null || dict.entry("Type") == null || !dict.entry("Type").isName("ObjStm") || whole(dict.entry("N")) < 0
                || whole(dict.entry("N")) > 200 || whole(dict.entry("First")) < 0) {
            throw wrong;
        }
        long place = NONE;
        int p = 0;
        for (int i = 0; i < whole(dict.entry("N")); i++) {
            p = white(data, p);
            String number = row(data, p);
            p = white(data, p + number.length());
            String offset = row(data, p);
            p += offset.length();
            if (plainWhole(number) < 0 || plainWhole(offset) < 0) {
                throw wrong;
            }
            if (i == entry.generation && plainWhole(number) == n) {
                place = plainWhole(offset) + whole(dict.entry("First"));
            }
        }
        if (place < 0) {
            throw wrong;
        }
        items.put(n, new Reader(data, (int) Math.min(place, data.length()), true).object(0));
        generations.put(n, 0);
    }

    // ---- filters

    private String decode(Item dict, String bytes, int place) {
        Wrong wrong = new Wrong(7, place);
        Item filter = dict.entry("Filter");
        List<Item> names = filter == null ? List.of() : filter.kind == 4 ? List.of(filter) : filter.parts;
        if (filter != null && filter.kind != 4 && (filter.kind != 6 || names.size() > 3)
                || names.stream().anyMatch(name -> !name.isName("FlateDecode") && !name.isName("ASCIIHexDecode"))) {
            throw wrong;
        }
        Item parms = filter == null ? null : dict.entry("DecodeParms");
        List<Item> each = new ArrayList<>();
        if (parms == null || parms.kind == 0) {
            names.forEach(name -> each.add(NULL));
        } else if (parms.kind == 7) {
            each.add(parms);
        } else {
            each.addAll(parms.parts);
        }
        if (each.size() != names.size() || parms != null && parms.kind != 0 && parms.kind != 7 && parms.kind != 6) {
            throw wrong;
        }
        for (int i = 0; i < names.size(); i++) {
            if (each.get(i).kind != 0 && each.get(i).kind != 7 || names.get(i).isName("FlateDecode") && !isPredictor(each.get(i))) {
                throw wrong;
            }
        }
        String data = bytes;
        for (int i = 0; i < names.size() && data != null; i++) {
            boolean flate = names.get(i).isName("FlateDecode");
            data = flate ? inflate(data) : fromHex(data);
            if (flate && data != null && wholeOr(each.get(i), "Predictor", 1) >= 10) {
                data = unpredict(data, (int) wholeOr(each.get(i), "Columns", 1));
            }
        }
        if (data == null || data.length() > 8000) {
            throw new Wrong(8, place);
        }
        return data;
    }

    private static long wholeOr(Item dict, String name, long without) {
        Item entry = dict.entry(name);
        return entry == null ? without : whole(entry);
    }

    private static boolean isPredictor(Item dict) {
        long predictor = wholeOr(dict, "Predictor", 1);
        long columns = wholeOr(dict, "Columns", 1);
        return predictor == 1 || predictor >= 10 && predictor <= 15 && columns >= 1 && columns <= 200
                && wholeOr(dict, "Colors", 1) == 1 && wholeOr(dict, "BitsPerComponent", 8) == 8;
    }

    private static String inflate(String data) {
        Inflater inflater = new Inflater();
        try {
            byte[] all = Files.bytes(data);
            inflater.setInput(all);
            byte[] room = new byte[8001];
            int many = 0;
            while (!inflater.finished() && many < room.length) {
                int more = inflater.inflate(room, many, room.length - many);
                if (more == 0 && !inflater.finished()) {
                    return null;
                }
                many += more;
            }
            boolean good = inflater.finished() && inflater.getRemaining() == 0 && many <= 8000;
            return good ? Files.text(Arrays.copyOf(room, many)) : null;
        } catch (DataFormatException bad) {
            return null;
        } finally {
            inflater.end();
        }
    }

    private static String fromHex(String data) {
        int end = data.indexOf('>');
        if (end < 0 || blanks(data, end + 1) < data.length()) {
            return null;
        }
        StringBuilder digits = new StringBuilder();
        for (char c : data.substring(0, end).toCharArray()) {
            digits.append(isWhite(c) ? "" : c);
        }
        String text = fromDigits(digits.toString());
        return text == null || text.length() > 8000 ? null : text;
    }

    private static String unpredict(String data, int columns) {
        StringBuilder text = new StringBuilder();
        if (data.length() % (columns + 1) != 0) {
            return null;
        }
        int[] before = new int[columns + 1];
        for (int at = 0; at < data.length(); at += columns + 1) {
            int[] row = new int[columns + 1];
            for (int i = 1; i <= columns; i++) {
                int a = row[i - 1];
                int b = before[i];
                int c = before[i - 1];
                int guess;
                switch (data.charAt(at)) {
                    case 0:
                        guess = 0;
                        break;
                    case 1:
                        guess = a;
                        break;
                    case 2:
                        guess = b;
                        break;
                    case 3:
                        guess = (a + b) / 2;
                        break;
                    case 4:
                        int p = a + b - c;
                        int least = Math.min(Math.abs(p - a), Math.min(Math.abs(p - b), Math.abs(p - c)));
                        guess = Math.abs(p - a) == least ? a : Math.abs(p - b) == least ? b : c;
                        break;
                    default:
                        return null;
                }
                row[i] = data.charAt(at + i) + guess & 255;
                text.append((char) row[i]);
            }
            before = row;
        }
        return text.toString();
    }

    // ---- the document

    /** The number of the last object of a row of references; 0: NULL, or no reference. */
    private int target(Item item) {
        int n = 0;
        Item at = item;
        for (int references = 0; at != null && at.kind == 8; references++) {
            n = (int) at.value;
            if (references == 20 || !items.containsKey(n) || generations.get(n) != at.generation) {
                return 0;
            }
            at = items.get(n);
        }
        return n;
    }

    private Item value(Item item) {
        if (item == null || item.kind == 8 && target(item) == 0) {
            return NULL;
        }
        return item.kind == 8 ? items.get(target(item)) : item;
    }

    private Item told(Item dict, String name) {
        return value(dict.entry(name));
    }

    /** The dict that an entry is or leads to; null: it is none, or a stream. */
    private Item dictOf(Item item) {
        Item dict = value(item);
        return dict.kind == 7 && !streams.containsKey(target(item)) ? dict : null;
    }

    private void tree() {
        Item toRoot = trailer.entry("Root");
        root = target(toRoot);
        if (root == 0 || dictOf(toRoot) == null) {
            throw new Wrong(10, 0);
        }
        Item catalog = items.get(root);
        firstNode = target(catalog.entry("Pages"));
        if (!told(catalog, "Type").isName("Catalog") || firstNode == 0 || dictOf(catalog.entry("Pages")) == null) {
            throw new Wrong(10, root);
        }
        visit(firstNode, 0, 1, new HashSet<>());
        Item toInfo = trailer.entry("Info");
        info = target(toInfo);
        if (toInfo != null && (info == 0 || dictOf(toInfo) == null)) {
            throw new Wrong(10, 0);
        }
    }

    private int visit(int n, int parent, int depth, Set<Integer> met) {
        if (!met.add(n)) {
            throw new Wrong(10, parent);
        }
        if (depth > 20) {
            throw new Wrong(5, n);
        }
        Wrong wrong = new Wrong(10, n);
        Item dict = items.get(n);
        boolean isNode = told(dict, "Type").isName("Pages");
        if (!isNode && (parent == 0 || !told(dict, "Type").isName("Page"))) {
            throw wrong;
        }
        if (parent != 0 && target(dict.entry("Parent")) != parent) {
            throw wrong;
        }
        Item box = told(dict, "MediaBox");
        if (box.kind != 0 && (box.kind != 6 || box.parts.size() != 4 || !box.parts.stream().allMatch(part -> value(part).isNumber()))) {
            throw wrong;
        }
        if (told(dict, "Resources").kind != 0 && dictOf(dict.entry("Resources")) == null) {
            throw wrong;
        }
        Item rotate = told(dict, "Rotate");
        if (rotate.kind != 0 && (rotate.kind != 2 || rotate.value % 90 != 0)) {
            throw wrong;
        }
        above.put(n, parent);
        if (!isNode) {
            page(n, wrong);
            return 1;
        }
        if (told(dict, "Kids").kind != 6) {
            throw wrong;
        }
        int below = 0;
        for (Item kid : told(dict, "Kids").parts) {
            if (target(kid) == 0 || dictOf(kid) == null) {
                throw wrong;
            }
            below += visit(target(kid), n, depth + 1, met);
        }
        if (told(dict, "Count").kind != 2 || told(dict, "Count").value != below) {
            throw wrong;
        }
        return below;
    }

    private void page(int n, Wrong wrong) {
        if (inherited(n, "MediaBox") == null) {
            throw wrong;
        }
        String contents = contentsOf(n);
        if (contents == null) {
            throw wrong;
        }
        if (contents.length() > 40000 || pages.size() == 60) {
            throw new Wrong(5, n);
        }
        pages.add(n);
    }

    /** The entry that a page has of its own or from above, as it stands there. */
    private Item inherited(int page, String name) {
        for (int n = page; n != 0; n = above.get(n)) {
            Item entry = items.get(n).entry(name);
            if (value(entry).kind != 0) {
                return entry;
            }
        }
        return null;
    }

    private String contentsOf(int page) {
        Item entry = items.get(page).entry("Contents");
        Item all = value(entry);
        if (all.kind == 0) {
            return "";
        }
        List<String> pieces = new ArrayList<>();
        for (Item piece : all.kind == 6 ? all.parts : List.of(entry)) {
            String data = streams.get(target(piece));
            if (data == null) {
                return null;
            }
            pieces.add(data);
        }
        return String.join("\n", pieces);
    }

    // ---- what is asked of the document

    int fault(int what) {
        int[] all = {loadFault, loadPlace, showFault, showPlace};
        return what >= 0 && what < 4 ? all[what] : NONE;
    }

    int objects() {
        return open ? items.size() : NONE;
    }

    int go(int n) {
        path = new ArrayList<>();
        if (!open || !items.containsKey(n)) {
            return NONE;
        }
        path.add(items.get(n));
        standing = n;
        return kindHere();
    }

    private int kindHere() {
        return path.size() == 1 && streams.containsKey(standing) ? 9 : here().kind;
    }

    private Item here() {
        return path.get(path.size() - 1);
    }

    int down(int i) {
        if (path.isEmpty() || i < 0 || i >= here().parts.size()) {
            return NONE;
        }
        path.add(here().parts.get(i));
        return kindHere();
    }

    int up() {
        if (path.size() < 2) {
            return NONE;
        }
        path.remove(path.size() - 1);
        return path.size() - 1;
    }

    private boolean isText() {
        return here().kind == 4 || here().kind == 5;
    }

    private String keyHere() {
        return path.size() < 2 || here().key == null ? "" : here().key;
    }

    int here(int what) {
        if (path.isEmpty() || what < 0 || what > 4) {
            return NONE;
        }
        Item item = here();
        long[] all = {kindHere(), item.value, isText() ? item.text.length() : item.parts.size(), item.generation, keyHere().length()};
        return (int) all[what];
    }

    int letter(int i, boolean key) {
        if (path.isEmpty()) {
            return NONE;
        }
        String text = key ? keyHere() : isText() ? here().text : "";
        return i >= 0 && i < text.length() ? text.charAt(i) : NONE;
    }

    int size(int n) {
        return open && streams.containsKey(n) ? streams.get(n).length() : NONE;
    }

    int data(int n, int i) {
        return i >= 0 && i < size(n) ? streams.get(n).charAt(i) : NONE;
    }

    int count(int what) {
        int[] all = {size, root, info, sections.size(), inRows ? 1 : 0, sections.isEmpty() ? 0 : sections.get(0), changed.size()};
        return open && what >= 0 && what < all.length ? all[what] : NONE;
    }

    int pages() {
        return open ? pages.size() : NONE;
    }

    private boolean has(int k) {
        return open && k >= 0 && k < pages.size();
    }

    int page(int k, int what) {
        if (!open) {
            return NONE;
        }
        if (!has(k) || what < 0 || what > 6) {
            return 0;
        }
        int n = pages.get(k);
        if (what >= 1 && what <= 4) {
            return (int) value(value(inherited(n, "MediaBox")).parts.get(what - 1)).units();
        }
        return what == 0 ? n : what == 5 ? (int) value(inherited(n, "Rotate")).value : contentsOf(n).length();
    }

    // ---- showing

    private static final Map<String, Integer> PLAIN = new HashMap<>();

    static {
        String[] told = {"0 q Q BT ET T* h S s f F f* B B* b b* n W W*", "1 Tc Tw TL w J j M i g G", "2 Td TD m l", "3 rg RG", "4 v y re k K",
            "6 cm Tm c"};
        for (String line : told) {
            String[] words = line.split(" ");
            for (int i = 1; i < words.length; i++) {
                PLAIN.put(words[i], Integer.parseInt(words[0]));
            }
        }
    }

    /** What q keeps. */
    private static final class State implements Cloneable {
        BigInteger[] ctm = unit();
        Item font;
        int fontObject;
        long size;
        long tc;
        long tw;
        long tl;

        State copy() {
            try {
                return (State) clone();
            } catch (CloneNotSupportedException never) {
                throw new IllegalStateException(never);
            }
        }
    }

    private State now;
    private List<State> kept;
    private BigInteger[] tm;
    private BigInteger[] line;
    private boolean inText;
    private int shownPage;

    private static BigInteger[] unit() {
        return matrix(65536, 0, 0, 65536, 0, 0);
    }

    private static BigInteger[] matrix(long... six) {
        return Arrays.stream(six).mapToObj(BigInteger::valueOf).toArray(BigInteger[]::new);
    }

    int show(int k) {
        if (!has(k)) {
            return NONE;
        }
        glyphs = new ArrayList<>();
        shownPage = pages.get(k);
        showFault = 0;
        showPlace = NONE;
        try {
            paint(contentsOf(shownPage));
            return glyphs.size();
        } catch (Wrong wrong) {
            glyphs = new ArrayList<>();
            showFault = wrong.fault;
            showPlace = wrong.place;
            return -100 - wrong.fault;
        }
    }

    int glyph(int i, int what) {
        return open && i >= 0 && i < glyphs.size() && what >= 0 && what < 5 ? (int) glyphs.get(i)[what] : NONE;
    }

    private void paint(String contents) {
        now = new State();
        kept = new ArrayList<>();
        inText = false;
        lettersRead = 0;
        objectsRead = 0;
        List<Item> operands = new ArrayList<>();
        int p = white(contents, 0);
        while (p < contents.length()) {
            String row = row(contents, p);
            boolean isOperator = !row.isEmpty() && !NUMBER.matcher(row).matches() && !List.of("null", "true", "false").contains(row);
            if (isOperator) {
                operate(row, operands, p);
                operands.clear();
                objectsRead = 0;
                lettersRead = 0;
                p += row.length();
            } else if (operands.size() == 40) {
                throw new Wrong(11, p);
            } else {
                Reader reader = new Reader(contents, p, false);
                operands.add(reader.object(0));
                p = reader.p;
            }
            p = white(contents, p);
        }
        if (inText || !kept.isEmpty()) {
            throw new Wrong(12, contents.length());
        }
    }

    private boolean fits(String op, List<Item> all) {
        int kind = all.isEmpty() ? NONE : all.get(0).kind;
        if (PLAIN.containsKey(op)) {
            return all.size() == PLAIN.get(op) && all.stream().allMatch(Item::isNumber);
        }
        switch (op) {
            case "Tj":
            case "'":
                return all.size() == 1 && kind == 5;
            case "TJ":
                return all.size() == 1 && kind == 6 && all.get(0).parts.stream().allMatch(part -> part.kind == 5 || part.isNumber());
            case "Tf":
                return all.size() == 2 && kind == 4 && all.get(1).isNumber();
            case "d":
                return all.size() == 2 && kind == 6 && all.get(1).isNumber();
            default:
                return false;
        }
    }

    private void operate(String op, List<Item> all, int place) {
        if (!fits(op, all)) {
            throw new Wrong(11, place);
        }
        boolean onlyOutside = List.of("q", "Q", "cm", "BT").contains(op);
        boolean onlyInside = List.of("ET", "Td", "TD", "Tm", "T*", "Tj", "'", "TJ").contains(op);
        if (inText && onlyOutside || !inText && onlyInside || op.equals("q") && kept.size() == 20 || op.equals("Q") && kept.isEmpty()) {
            throw new Wrong(12, place);
        }
        boolean shows = op.equals("Tj") || op.equals("'") || op.equals("TJ") && all.get(0).parts.stream().anyMatch(part -> part.kind == 5);
        if (shows && now.font == null) {
            throw new Wrong(13, place);
        }
        long[] n = all.stream().mapToLong(Item::units).toArray();
        switch (op) {
            case "q" -> kept.add(now.copy());
            case "Q" -> now = kept.remove(kept.size() - 1);
            case "cm" -> now.ctm = product(matrix(n), now.ctm, place);
            case "BT" -> {
                inText = true;
                tm = unit();
                line = unit();
            }
            case "ET" -> inText = false;
            case "Tf" -> setFont(all, place);
            case "Tc" -> now.tc = n[0];
            case "Tw" -> now.tw = n[0];
            case "TL" -> now.tl = n[0];
            case "Td" -> next(n[0], n[1], place);
            case "TD" -> {
                now.tl = near(BigInteger.valueOf(-n[1]), place).longValue();
                next(n[0], n[1], place);
            }
            case "Tm" -> {
                tm = matrix(n);
                line = tm;
            }
            case "T*" -> next(0, near(BigInteger.valueOf(-now.tl), place).longValue(), place);
            case "'" -> {
                next(0, near(BigInteger.valueOf(-now.tl), place).longValue(), place);
                showString(all.get(0).text, place);
            }
            case "Tj" -> showString(all.get(0).text, place);
            case "TJ" -> {
                for (Item part : all.get(0).parts) {
                    if (part.kind == 5) {
                        showString(part.text, place);
                    } else {
                        advance(thousandth(-part.units()), place);
                    }
                }
            }
            default -> {
            }
        }
    }

    private void setFont(List<Item> all, int place) {
        Wrong wrong = new Wrong(13, place);
        Item resources = dictOf(inherited(shownPage, "Resources"));
        Item fonts = resources == null ? null : dictOf(resources.entry("Font"));
        Item entry = fonts == null ? null : fonts.entry(all.get(0).text);
        Item font = dictOf(entry);
        if (font == null || !told(font, "Type").isName("Font")) {
            throw wrong;
        }
        Item first = told(font, "FirstChar");
        Item last = told(font, "LastChar");
        Item widths = told(font, "Widths");
        if (first.kind != 2 || last.kind != 2 || first.value < 0 || last.value < first.value || last.value > 255 || widths.kind != 6
                || widths.parts.size() != last.value - first.value + 1 || !widths.parts.stream().allMatch(part -> value(part).isNumber())) {
            throw wrong;
        }
        now.font = font;
        now.fontObject = target(entry);
        now.size = all.get(1).units();
    }

    private static BigInteger near(BigInteger number, int place) {
        if (number.bitLength() > 31) {
            throw new Wrong(14, place);
        }
        return number;
    }

    /** The nearest whole of a part; of two the greater one. */
    private static BigInteger nearest(BigInteger number, long parts) {
        BigInteger[] two = number.multiply(BigInteger.TWO).add(BigInteger.valueOf(parts)).divideAndRemainder(BigInteger.valueOf(2 * parts));
        return two[1].signum() < 0 ? two[0].subtract(BigInteger.ONE) : two[0];
    }

    private static BigInteger[] product(BigInteger[] one, BigInteger[] other, int place) {
        BigInteger[] all = new BigInteger[6];
        for (int i = 0; i < 6; i++) {
            int rowAt = i / 2 * 2;
            int column = i % 2;
            all[i] = nearest(one[rowAt].multiply(other[column]), 65536).add(nearest(one[rowAt + 1].multiply(other[column + 2]), 65536));
            if (i >= 4) {
                all[i] = all[i].add(other[i]);
            }
            near(all[i], place);
        }
        return all;
    }

    private void next(long x, long y, int place) {
        line = product(matrix(65536, 0, 0, 65536, x, y), line, place);
        tm = line;
    }

    private BigInteger thousandth(long number) {
        return nearest(BigInteger.valueOf(number).multiply(BigInteger.valueOf(now.size)), 65536000);
    }

    private void advance(BigInteger t, int place) {
        tm = product(matrix(65536, 0, 0, 65536, near(t, place).longValue(), 0), tm, place);
    }

    private void showString(String text, int place) {
        for (char code : text.toCharArray()) {
            if (glyphs.size() == 1500) {
                throw new Wrong(5, place);
            }
            BigInteger[] at = product(tm, now.ctm, place);
            glyphs.add(new long[] {code, at[4].longValue(), at[5].longValue(), now.size, now.fontObject});
            long first = told(now.font, "FirstChar").value;
            List<Item> widths = told(now.font, "Widths").parts;
            boolean within = code >= first && code - first < widths.size();
            long width = within ? value(widths.get((int) (code - first))).units() : 0;
            advance(thousandth(width).add(BigInteger.valueOf(now.tc)).add(BigInteger.valueOf(code == 32 ? now.tw : 0)), place);
        }
    }

    // ---- changes

    /** The number of a new object; below 0: Size would be above 200. */
    private int spare() {
        for (int n = size; n < 200; n++) {
            if (!named.contains(n)) {
                return n;
            }
        }
        return NONE;
    }

    private Item make(int n) {
        Item dict = new Item(7, 0, 0, "");
        items.put(n, dict);
        generations.put(n, 0);
        changed.add(n);
        size = n + 1;
        return dict;
    }

    private static void put(Item dict, String name, Item item) {
        for (int i = 0; i < dict.parts.size(); i++) {
            if (dict.parts.get(i).key.equals(name)) {
                dict.parts.set(i, item.named(name));
                return;
            }
        }
        dict.parts.add(item.named(name));
    }

    private Item referenceTo(int n) {
        return new Item(8, n, generations.get(n), "");
    }

    int insert(int k, int w, int h) {
        if (!open || k < 0 || k > pages.size() || w < 1 || w > 14400 || h < 1 || h > 14400 || pages.size() == 60 || spare() < 0) {
            return NONE;
        }
        int n = spare();
        Item page = make(n);
        put(page, "Type", Item.name("Page"));
        put(page, "Parent", NULL.copy());
        Item box = new Item(6, 0, 0, "");
        for (int number : new int[] {0, 0, w, h}) {
            box.parts.add(Item.whole(number));
        }
        put(page, "MediaBox", box);
        putPage(n, k);
        path = new ArrayList<>();
        return n;
    }

    private Item ownKids(int node) {
        Item dict = items.get(node);
        put(dict, "Kids", told(dict, "Kids").copy());
        return dict.entry("Kids");
    }

    private void countUp(int node, int more) {
        for (int n = node; n != 0; n = above.get(n)) {
            put(items.get(n), "Count", Item.whole(told(items.get(n), "Count").value + more));
            changed.add(n);
        }
    }

    private int placeIn(Item kids, int page) {
        for (int i = 0; i < kids.parts.size(); i++) {
            if (target(kids.parts.get(i)) == page) {
                return i;
            }
        }
        throw new IllegalStateException("no such kid");
    }

    private void putPage(int n, int k) {
        int node = pages.isEmpty() ? firstNode : above.get(pages.get(Math.min(k, pages.size() - 1)));
        Item kids = ownKids(node);
        int at = pages.isEmpty() ? kids.parts.size() : k < pages.size() ? placeIn(kids, pages.get(k))
                : placeIn(kids, pages.get(pages.size() - 1)) + 1;
        kids.parts.add(at, referenceTo(n));
        put(items.get(n), "Parent", referenceTo(node));
        above.put(n, node);
        changed.add(n);
        pages.add(k, n);
        countUp(node, 1);
    }

    private void takePage(int k) {
        int n = pages.remove(k);
        Item kids = ownKids(above.get(n));
        kids.parts.remove(placeIn(kids, n));
        countUp(above.get(n), -1);
    }

    int delete(int k) {
        if (!has(k)) {
            return NONE;
        }
        takePage(k);
        path = new ArrayList<>();
        return pages.size();
    }

    int move(int k, int to) {
        if (!has(k) || to < 0 || to > pages.size() - 1) {
            return NONE;
        }
        int n = pages.get(k);
        for (String name : new String[] {"MediaBox", "Resources", "Rotate"}) {
            Item from = inherited(n, name);
            if (from != null && from != items.get(n).entry(name)) {
                put(items.get(n), name, from.copy());
            }
        }
        takePage(k);
        putPage(n, to);
        path = new ArrayList<>();
        return n;
    }

    boolean turn(int k, int degrees) {
        if (!has(k) || degrees % 90 != 0 || Math.abs((long) degrees) > 360) {
            return false;
        }
        put(items.get(pages.get(k)), "Rotate", Item.whole(degrees));
        changed.add(pages.get(k));
        path = new ArrayList<>();
        return true;
    }

    int contents(int k) {
        String bytes = tape;
        tape = "";
        if (!has(k) || spare() < 0 || bytesOfStreams() + bytes.length() > 40000) {
            return NONE;
        }
        int n = spare();
        make(n);
        streams.put(n, bytes);
        put(items.get(pages.get(k)), "Contents", referenceTo(n));
        changed.add(pages.get(k));
        path = new ArrayList<>();
        return n;
    }

    int info(int which) {
        String bytes = tape;
        tape = "";
        if (!open || which < 0 || which > 3 || bytes.length() > 2000 || info == 0 && spare() < 0) {
            return NONE;
        }
        if (info == 0) {
            info = spare();
            make(info);
        }
        put(items.get(info), new String[] {"Title", "Author", "Subject", "Keywords"}[which], new Item(5, 0, 0, bytes));
        changed.add(info);
        path = new ArrayList<>();
        return info;
    }

    // ---- writing

    // The new numbers of WHOLE, as they are met; null: MORE is written.
    private List<Integer> met;

    private String told(Item item) {
        switch (item.kind) {
            case 1:
                return item.value == 1 ? "true" : "false";
            case 2:
                return "" + item.value;
            case 3:
                return real(item.value);
            case 4:
                return nameOf(item.text);
            case 5:
                return stringOf(item.text);
            case 6:
            case 7:
                return (item.kind == 6 ? "[ " : "<< ") + partsOf(item, Set.of()) + (item.kind == 6 ? "]" : ">>");
            case 8:
                return reference(item);
            default:
                return "null";
        }
    }

    private String partsOf(Item item, Set<String> without) {
        StringBuilder all = new StringBuilder();
        for (Item part : item.parts) {
            if (item.kind == 6) {
                all.append(told(part)).append(' ');
            } else if (!without.contains(part.key)) {
                all.append(nameOf(part.key)).append(' ').append(told(part)).append(' ');
            }
        }
        return all.toString();
    }

    private static String real(long units) {
        String digits = new BigDecimal(Math.abs(units)).divide(new BigDecimal(65536)).setScale(5, RoundingMode.HALF_UP).toPlainString();
        return (units < 0 ? "-" : "") + digits.replaceAll("(\\.[0-9][0-9]*?)0+$", "$1");
    }

    private static String nameOf(String text) {
        StringBuilder all = new StringBuilder("/");
        for (char c : text.toCharArray()) {
            all.append(c < 33 || c > 126 || "()<>[]{}/%#".indexOf(c) >= 0 ? String.format("#%02X", (int) c) : "" + c);
        }
        return all.toString();
    }

    private static String stringOf(String text) {
        if (text.chars().allMatch(c -> c >= 32 && c <= 126 && "()\\".indexOf(c) < 0)) {
            return "(" + text + ")";
        }
        StringBuilder all = new StringBuilder("<");
        text.chars().forEach(c -> all.append(String.format("%02X", c)));
        return all + ">";
    }

    private String reference(Item item) {
        if (met == null) {
            return item.value + " " + item.generation + " R";
        }
        return target(item) == 0 ? "null" : meet(target(item)) + " 0 R";
    }

    private int meet(int n) {
        if (!met.contains(n)) {
            met.add(n);
        }
        return met.indexOf(n) + 1;
    }

    private static String streamOf(String entries, String data) {
        String code = Bits.plainCode(data);
        return entries + "/Length " + code.length() + " /Filter /FlateDecode >>\nstream\n" + code + "\nendstream";
    }

    private String object(int n, int as, int generation) {
        String body = !streams.containsKey(n) ? told(items.get(n))
                : streamOf("<< " + partsOf(items.get(n), Set.of("Length", "Filter", "DecodeParms")), streams.get(n));
        return as + " " + generation + " obj\n" + body + "\nendobj\n";
    }

    private int finish(String text) {
        out = text.length() > 30000 ? "" : text;
        return text.length() > 30000 ? NONE : text.length();
    }

    int whole() {
        if (!open) {
            out = "";
            return NONE;
        }
        met = new ArrayList<>(List.of(root));
        StringBuilder all = new StringBuilder("%PDF-1.7\n");
        StringBuilder places = new StringBuilder("0000000000 65535 f \n");
        if (info != 0) {
            meet(info);
        }
        for (int i = 0; i < met.size() && all.length() <= 30000; i++) {
            places.append(String.format("%010d 00000 n \n", all.length()));
            all.append(object(met.get(i), i + 1, 0));
        }
        int xref = all.length();
        all.append("xref\n0 ").append(met.size() + 1).append('\n').append(places).append("trailer\n<< /Size ").append(met.size() + 1)
                .append(" /Root 1 0 R").append(info == 0 ? "" : " /Info " + meet(info) + " 0 R").append(" >>\n");
        return finish(all.append("startxref\n").append(xref).append("\n%%EOF\n").toString());
    }

    int more() {
        out = "";
        if (!open || inRows && spare() < 0) {
            return NONE;
        }
        met = null;
        StringBuilder all = new StringBuilder(file);
        if (!file.endsWith("\n")) {
            all.append('\n');
        }
        Map<Integer, Integer> places = new TreeMap<>();
        for (int n : changed) {
            places.put(n, all.length());
            all.append(object(n, n, generations.get(n)));
            if (all.length() > 30000) {
                return NONE;
            }
        }
        int begin = all.length();
        if (inRows) {
            places.put(spare(), begin);
        }
        TreeSet<Integer> listed = new TreeSet<>(places.keySet());
        for (int n = sizeRead; n < (inRows ? spare() : size); n++) {
            if (!items.containsKey(n)) {
                listed.add(n);
            }
        }
        String roots = " /Root " + told(referenceTo(root)) + (info == 0 ? "" : " /Info " + told(referenceTo(info)));
        all.append(inRows ? rowsOf(listed, places, roots) : tableOf(listed, places, roots));
        return finish(all.append("startxref\n").append(begin).append("\n%%EOF\n").toString());
    }

    private static int endOfRow(TreeSet<Integer> listed, int first) {
        int n = first;
        while (listed.contains(n)) {
            n++;
        }
        return n;
    }

    private String tableOf(TreeSet<Integer> listed, Map<Integer, Integer> places, String roots) {
        StringBuilder all = new StringBuilder("xref\n");
        if (listed.isEmpty()) {
            all.append("0 0\n");
        }
        for (int n : listed) {
            if (!listed.contains(n - 1)) {
                all.append(n).append(' ').append(endOfRow(listed, n) - n).append('\n');
            }
            all.append(places.containsKey(n) ? String.format("%010d %05d n \n", places.get(n), generations.get(n)) : "0000000000 65535 f \n");
        }
        return all.append("trailer\n<< /Size ").append(size).append(roots).append(" /Prev ").append(sections.get(0)).append(" >>\n").toString();
    }

    private String rowsOf(TreeSet<Integer> listed, Map<Integer, Integer> places, String roots) {
        StringBuilder index = new StringBuilder("[ ");
        StringBuilder rows = new StringBuilder();
        for (int n : listed) {
            if (!listed.contains(n - 1)) {
                index.append(n).append(' ').append(endOfRow(listed, n) - n).append(' ');
            }
            long place = places.getOrDefault(n, 0);
            int generation = !places.containsKey(n) ? 65535 : items.containsKey(n) ? generations.get(n) : 0;
            rows.append((char) (places.containsKey(n) ? 1 : 0)).append((char) (place >> 24)).append((char) (place >> 16 & 255))
                    .append((char) (place >> 8 & 255)).append((char) (place & 255)).append((char) (generation >> 8)).append((char) (generation & 255));
        }
        int own = spare();
        String entries = "<< /Type /XRef /Size " + (own + 1) + " /W [ 1 4 2 ] /Index " + index + "]" + roots + " /Prev " + sections.get(0) + " ";
        return own + " 0 obj\n" + streamOf(entries, rows.toString()) + "\nendobj\n";
    }

    int outs() {
        return out.length();
    }

    int out(int i) {
        return i >= 0 && i < out.length() ? out.charAt(i) : NONE;
    }

    String outText() {
        return out;
    }

    int sum() {
        Adler32 adler = new Adler32();
        adler.update(Files.bytes(out));
        return (int) adler.getValue();
    }

    int take() {
        if (out.length() > 8000) {
            return NONE;
        }
        tape = out;
        return tape.length();
    }
}
