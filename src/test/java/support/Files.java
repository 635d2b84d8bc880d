import java.io.ByteArrayOutputStream;
import java.nio.charset.StandardCharsets;
import java.util.Map;
import java.util.TreeMap;
import java.util.zip.Deflater;

/** Builds files of pages, as texts of the signs 0 to 255, and brings them into a house. */
final class Files {
    static final String CATALOG = "<< /Type /Catalog /Pages 2 0 R >>";
    static final String NO_PAGES = "<< /Type /Pages /Kids [ ] /Count 0 >>";
    static final String ONE_PAGE = "<< /Type /Pages /Kids [ 3 0 R ] /Count 1 >>";
    static final String PAGE = "<< /Type /Page /Parent 2 0 R /MediaBox [ 0 0 10 20 ] >>";

    private final StringBuilder text = new StringBuilder("%PDF-1.4\n");
    private final Map<Integer, Integer> places = new TreeMap<>();

    /** A file with a catalog and an empty tree, to which objects from 3 on can be added. */
    static Files empty() {
        return new Files().object(1, CATALOG).object(2, NO_PAGES);
    }

    /** A file with one page, object 3. */
    static Files paged() {
        return new Files().object(1, CATALOG).object(2, ONE_PAGE).object(3, PAGE);
    }

    Files object(int n, String body) {
        places.put(n, text.length());
        text.append(n).append(" 0 obj\n").append(body).append("\nendobj\n");
        return this;
    }

    Files stream(int n, String entries, String data) {
        return object(n, "<< " + entries + " /Length " + data.length() + " >>\nstream\n" + data + "\nendstream");
    }

    Files raw(String bytes) {
        text.append(bytes);
        return this;
    }

    /** An object of which the entry is told otherwise. */
    Files at(int n, int place) {
        places.put(n, place);
        return this;
    }

    int length() {
        return text.length();
    }

    int placeOf(int n) {
        return places.get(n);
    }

    /** The file with a table for all its objects. */
    String table(String trailer) {
        int size = 1;
        for (int n : places.keySet()) {
            size = Math.max(size, n + 1);
        }
        return table(trailer, size);
    }

    String table(String trailer, int size) {
        int begin = text.length();
        section("/Size " + size + " " + trailer);
        return text + "startxref\n" + begin + "\n%%EOF\n";
    }

    /** A section with the entries that were told since the one before; it answers its place. */
    int section(String trailer) {
        int begin = text.length();
        text.append("xref\n0 1\n0000000000 65535 f \n");
        for (Map.Entry<Integer, Integer> entry : places.entrySet()) {
            text.append(entry.getKey()).append(" 1\n");
            text.append(String.format("%010d 00000 n \n", entry.getValue()));
        }
        places.clear();
        text.append("trailer\n<< ").append(trailer).append(" >>\n");
        return begin;
    }

    String end(int section) {
        return text + "startxref\n" + section + "\n%%EOF\n";
    }

    /** A short file of many bytes: pages 10 and so on, which stand at one place of an object stream, with such a text each. */
    static String heavy(int pages, int letters) {
        StringBuilder page = new StringBuilder("<< /Type /Page /Parent 2 0 R /MediaBox [ 0 0 1 1 ]");
        for (int left = letters; left > 0; left -= 2000) {
            page.append(" /T").append(left).append(" (").append("x".repeat(Math.min(2000, left))).append(")");
        }
        StringBuilder pairs = new StringBuilder();
        StringBuilder kids = new StringBuilder();
        for (int n = 10; n < 10 + pages; n++) {
            pairs.append(n).append(" 0 ");
            kids.append(n).append(" 0 R ");
        }
        Files files = new Files().object(1, CATALOG).object(2, "<< /Type /Pages /Kids [ " + kids + "] /Count " + pages + " >>")
                .stream(3, "/Type /ObjStm /N " + pages + " /First " + pairs.length() + " /Filter /FlateDecode", deflated(pairs.toString() + page + " >>"));
        int begin = files.length();
        StringBuilder rows = new StringBuilder();
        for (int n = 1; n < 10 + pages; n++) {
            int place = n <= 3 ? files.placeOf(n) : n >= 10 ? 3 : 0;
            rows.append((char) (n <= 3 ? 1 : n >= 10 ? 2 : 0)).append((char) (place >> 8)).append((char) (place & 255)).append((char) Math.max(0, n - 10));
        }
        files.raw("9 0 obj << /Type /XRef /Size " + (10 + pages) + " /W [ 1 2 1 ] /Index [ 1 " + (9 + pages) + " ] /Root 1 0 R /Length " + rows.length()
                + " >> stream\n" + rows + "\nendstream endobj ");
        // The newest section is a table, whose length in MORE is told by how many entries it has.
        int newest = files.length();
        return files.raw("xref\n0 0\ntrailer << /Size " + (10 + pages) + " /Root 1 0 R /Prev " + begin + " >>\n").end(newest);
    }

    /** A short file of one page whose streams have so many bytes together. */
    static String streamed(int bytes) {
        Files files = paged();
        int n = 4;
        for (int left = bytes; left > 0; left -= 8000) {
            files.stream(n, "/Filter /FlateDecode", deflated("y".repeat(Math.min(8000, left))));
            n++;
        }
        return files.table("/Root 1 0 R");
    }

    static String text(byte[] bytes) {
        return new String(bytes, StandardCharsets.ISO_8859_1);
    }

    static byte[] bytes(String text) {
        return text.getBytes(StandardCharsets.ISO_8859_1);
    }

    static String deflated(String text) {
        return deflated(text, Deflater.DEFAULT_COMPRESSION, Deflater.DEFAULT_STRATEGY);
    }

    static String deflated(String text, int level, int strategy) {
        Deflater deflater = new Deflater(level);
        deflater.setStrategy(strategy);
        deflater.setInput(bytes(text));
        deflater.finish();
        ByteArrayOutputStream out = new ByteArrayOutputStream();
        byte[] room = new byte[1000];
        while (!deflater.finished()) {
            out.write(room, 0, deflater.deflate(room));
        }
        deflater.end();
        return text(out.toByteArray());
    }

    static String hex(String text) {
        StringBuilder all = new StringBuilder();
        for (byte b : bytes(text)) {
            all.append(String.format("%02X", b & 255));
        }
        return all.append('>').toString();
    }

    static void feed(House house, String text) {
        house.cut(0);
        byte[] all = bytes(text);
        int[] five = new int[5];
        for (int at = 0; at < all.length; at += 20) {
            for (int i = 0; i < 5; i++) {
                five[i] = 0;
                for (int k = 0; k < 4; k++) {
                    int p = at + 4 * i + k;
                    five[i] = five[i] << 8 | (p < all.length ? all[p] & 255 : 32);
                }
            }
            house.feed(five[0], five[1], five[2], five[3], five[4]);
        }
        house.cut(all.length);
    }

    static int load(House house, String file) {
        feed(house, file);
        return house.load();
    }

    static int contents(House house, int page, String text) {
        feed(house, text);
        return house.contents(page);
    }

    static int info(House house, int which, String text) {
        feed(house, text);
        return house.info(which);
    }

    static String out(House house) {
        StringBuilder all = new StringBuilder();
        for (int i = 0; i < house.outs(); i++) {
            all.append((char) house.out(i));
        }
        return all.toString();
    }

    static String data(House house, int n) {
        StringBuilder all = new StringBuilder();
        for (int i = 0; i < house.size(n); i++) {
            all.append((char) house.data(n, i));
        }
        return all.toString();
    }

    /** The bytes of the name or string at the cursor. */
    static String letters(House house, boolean key) {
        StringBuilder all = new StringBuilder();
        int many = house.here(key ? 4 : 2);
        for (int i = 0; i < many; i++) {
            all.append((char) house.letter(i, key));
        }
        return all.toString();
    }

    static String repeat(String text, int times) {
        return text.repeat(times);
    }

    static String noise(int many, int seed) {
        StringBuilder all = new StringBuilder();
        long state = seed * 7919L + 13;
        for (int i = 0; i < many; i++) {
            state = state * 6364136223846793005L + 1442695040888963407L;
            all.append((char) (state >>> 40 & 255));
        }
        return all.toString();
    }
}
