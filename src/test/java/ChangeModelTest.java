import java.util.ArrayList;
import java.util.LinkedHashMap;
import java.util.List;
import java.util.Map;
import java.util.TreeMap;
import java.util.TreeSet;
import java.util.regex.Matcher;
import java.util.regex.Pattern;
import java.util.zip.Adler32;

/** Promises 14 to 16 and 19 to 27: random changes of a document, and what is written then, worked out once more by texts. */
public final class ChangeModelTest {
    private static final String PAGES = "/Pages";
    private static final Pattern REFERENCE = Pattern.compile("(\\d+) (\\d+) R\\b");

    private long random;
    // Each object's entries as they are written; what is no dict has one entry without a name.
    private final Map<Integer, Map<String, String>> objects = new TreeMap<>();
    private final Map<Integer, List<Integer>> kids = new TreeMap<>();
    private final Map<Integer, Integer> above = new TreeMap<>();
    private final Map<Integer, String> streams = new TreeMap<>();
    private final TreeSet<Integer> changed = new TreeSet<>();
    private final int[] named = {16, 19};
    private String file;
    private int size = 15;
    private int info;

    public static void main(String[] args) {
        int done = 0;
        for (int run = 0; run < 400; run++) {
            ChangeModelTest model = new ChangeModelTest();
            model.random = run * 104729L + 11;
            done += model.play();
        }
        System.out.println(done + " changes");
        Checks.due("many changes", done > 2000, true);
        Checks.end();
    }

    private int pick(int below) {
        random = random * 6364136223846793005L + 1442695040888963407L;
        return (int) ((random >>> 33) % below);
    }

    private void object(Files files, int n, String... entries) {
        Map<String, String> all = new LinkedHashMap<>();
        StringBuilder text = new StringBuilder();
        for (int i = 0; i < entries.length; i += 2) {
            all.put(entries[i], entries[i + 1]);
            text.append(entries[i]).append(' ').append(entries[i + 1]).append(' ');
        }
        objects.put(n, all);
        files.object(n, all.containsKey("") ? all.get("") : "<< " + text + ">>");
    }

    private void node(int n, int... of) {
        List<Integer> all = new ArrayList<>();
        for (int kid : of) {
            all.add(kid);
            above.put(kid, n);
        }
        kids.put(n, all);
    }

    /** 2 has 3, page 9 and 4; 3 has 5, 6 by an array elsewhere, 4 has 7, 8, and its Count elsewhere. */
    private House start() {
        Files files = new Files();
        boolean withInfo = pick(2) == 0;
        object(files, 1, "/Type", "/Catalog", "/Pages", "2 0 R", "/X", "[ 16 3 R 13 0 R 99 0 R ]");
        object(files, 2, "/Type", PAGES, "/MediaBox", "[ 0 0 9 9 ]", "/Kids", "[ 3 0 R 9 0 R 4 0 R ]", "/Count", "5", "/Rotate", "12 0 R");
        object(files, 3, "/Kids", "10 0 R", "/Type", PAGES, "/Parent", "2 0 R", "/Resources", "<< /A [ 1 ] >>", "/Count", "2");
        object(files, 4, "/Type", PAGES, "/Parent", "2 0 R", "/Count", "11 0 R", "/MediaBox", "[ 1 2 3 4 ]", "/Kids", "[ 7 0 R 8 0 R ]");
        object(files, 5, "/Type", "/Page", "/Parent", "3 0 R");
        object(files, 6, "/Rotate", "-90", "/Type", "/Page", "/Parent", "3 0 R", "/MediaBox", "null");
        object(files, 7, "/Type", "/Page", "/Parent", "4 0 R", "/Resources", "<< >>", "/Contents", "null");
        object(files, 8, "/Type", "/Page", "/Parent", "4 0 R", "/MediaBox", "[ 5 6 7 8 ]", "/Rotate", "99 0 R");
        object(files, 9, "/Type", "/Page", "/Parent", "2 0 R", "/S", "(a b)");
        object(files, 10, "", "[ 5 0 R 6 0 R ]");
        object(files, 11, "", "2");
        object(files, 12, "", "180");
        object(files, 13, "/Subject", "(old)", "/Y", "19 0 R");
        object(files, 14, "", "(can't be come to)");
        node(2, 3, 9, 4);
        node(3, 5, 6);
        node(4, 7, 8);
        info = withInfo ? 13 : 0;
        file = files.table("/Root 1 0 R" + (withInfo ? " /Info 13 0 R" : ""));
        return Checks.loads("a document", file, 5);
    }

    private List<Integer> pages() {
        List<Integer> all = new ArrayList<>();
        gather(2, all);
        return all;
    }

    private void gather(int n, List<Integer> into) {
        if (!kids.containsKey(n)) {
            into.add(n);
            return;
        }
        for (int kid : kids.get(n)) {
            gather(kid, into);
        }
    }

    private int spare() {
        int n = size;
        while (n == named[0] || n == named[1]) {
            n++;
        }
        return n;
    }

    private int make(Map<String, String> entries) {
        int n = spare();
        objects.put(n, entries);
        changed.add(n);
        size = n + 1;
        return n;
    }

    private void tell(int n) {
        List<Integer> below = new ArrayList<>();
        gather(n, below);
        StringBuilder text = new StringBuilder("[ ");
        for (int kid : kids.get(n)) {
            text.append(kid).append(" 0 R ");
        }
        objects.get(n).put("/Count", "" + below.size());
        changed.add(n);
        if (above.containsKey(n)) {
            tellCount(above.get(n));
        }
        objects.get(n).put("/Kids", text + "]");
    }

    private void tellCount(int n) {
        List<Integer> below = new ArrayList<>();
        gather(n, below);
        objects.get(n).put("/Count", "" + below.size());
        changed.add(n);
        if (above.containsKey(n)) {
            tellCount(above.get(n));
        }
    }

    private void put(int n, int k) {
        List<Integer> all = pages();
        int node = 2;
        int place = kids.get(2).size();
        if (!all.isEmpty()) {
            int beside = all.get(Math.min(k, all.size() - 1));
            node = above.get(beside);
            place = kids.get(node).indexOf(beside) + (k < all.size() ? 0 : 1);
        }
        kids.get(node).add(place, n);
        above.put(n, node);
        objects.get(n).put("/Parent", node + " 0 R");
        changed.add(n);
        tell(node);
    }

    private void take(int n) {
        int node = above.get(n);
        kids.get(node).remove((Integer) n);
        tell(node);
    }

    private boolean isThere(String text) {
        return text != null && !text.equals("null") && !text.equals("99 0 R");
    }

    private String entryOf(int page, String name) {
        for (Integer n = page; n != null; n = above.get(n)) {
            if (isThere(objects.get(n).get(name))) {
                return objects.get(n).get(name);
            }
        }
        return null;
    }

    private int play() {
        House x = start();
        int done = 0;
        int many = 5 + pick(12);
        for (int i = 0; i < many; i++) {
            List<Integer> all = pages();
            int k = pick(all.size() + 2) - (pick(5) == 0 ? 1 : 0);
            done += change(x, all, k, pick(6)) ? 1 : 0;
            look(x);
        }
        written(x);
        return done;
    }

    private boolean change(House x, List<Integer> all, int k, int what) {
        boolean has = k >= 0 && k < all.size();
        switch (what) {
            case 0:
                int w = pick(20);
                boolean fits = k >= 0 && k <= all.size() && w > 0;
                Map<String, String> page = new LinkedHashMap<>();
                page.put("/Type", "/Page");
                page.put("/Parent", "");
                page.put("/MediaBox", "[ 0 0 " + w + " 7 ]");
                Checks.due("insert " + k, x.insert(k, w, 7), fits ? spare() : -1);
                if (fits) {
                    put(make(page), k);
                }
                return fits;
            case 1:
                Checks.due("delete " + k, x.delete(k), has ? all.size() - 1 : -1);
                if (has) {
                    take(all.get(k));
                }
                return has;
            case 2:
                int to = pick(all.size() + 2) - 1;
                boolean goes = has && to >= 0 && to < all.size();
                Checks.due("move " + k + " to " + to, x.move(k, to), goes ? all.get(k) : -1);
                if (goes) {
                    for (String name : new String[] {"/MediaBox", "/Resources", "/Rotate"}) {
                        String entry = entryOf(all.get(k), name);
                        if (entry != null) {
                            objects.get(all.get(k)).put(name, entry);
                        }
                    }
                    take(all.get(k));
                    put(all.get(k), to);
                }
                return goes;
            case 3:
                int degrees = pick(12) * 90 - 450;
                boolean turns = has && degrees >= -360 && degrees <= 360;
                Checks.due("turn " + k + " by " + degrees, x.turn(k, degrees), turns);
                if (turns) {
                    objects.get(all.get(k)).put("/Rotate", "" + degrees);
                    changed.add(all.get(k));
                }
                return turns;
            case 4:
                String text = "1 2 m ".repeat(pick(5)) + "S";
                Checks.due("contents " + k, Files.contents(x, k, text), has ? spare() : -1);
                if (has) {
                    int n = make(new LinkedHashMap<>());
                    streams.put(n, text);
                    objects.get(all.get(k)).put("/Contents", n + " 0 R");
                    changed.add(all.get(k));
                }
                return has;
            default:
                return inform(x);
        }
    }

    private boolean inform(House x) {
        int which = pick(6) - 1;
        boolean good = which >= 0 && which < 4;
        String text = "t".repeat(pick(4)) + which;
        Checks.due("info " + which, Files.info(x, which, text), !good ? -1 : info > 0 ? info : spare());
        if (good) {
            info = info > 0 ? info : make(new LinkedHashMap<>());
            objects.get(info).put(new String[] {"/Title", "/Author", "/Subject", "/Keywords"}[which], "(" + text + ")");
            changed.add(info);
        }
        return good;
    }

    private void look(House x) {
        List<Integer> all = pages();
        Checks.due("pages", x.pages(), all.size());
        Checks.due("Size", x.count(0), size);
        Checks.due("Info", x.count(2), info);
        Checks.due("changed", x.count(6), changed.size());
        Checks.due("objects", x.objects(), objects.size());
        for (int k = 0; k < all.size(); k++) {
            int n = all.get(k);
            Checks.due("page " + k, x.page(k, 0), n);
            String[] box = entryOf(n, "/MediaBox").split(" ");
            for (int i = 1; i <= 4; i++) {
                Checks.due("box of " + n, x.page(k, i), Integer.parseInt(box[i]) * 65536);
            }
            String rotate = entryOf(n, "/Rotate");
            Checks.due("Rotate of " + n, x.page(k, 5), rotate.equals("12 0 R") ? 180 : Integer.parseInt(rotate));
            String contents = objects.get(n).get("/Contents");
            Checks.due("bytes of " + n, x.page(k, 6), isThere(contents) ? streams.get(Integer.parseInt(contents.split(" ")[0])).length() : 0);
        }
    }

    private String body(int n) {
        Map<String, String> all = objects.get(n);
        if (all.containsKey("")) {
            return all.get("");
        }
        StringBuilder text = new StringBuilder("<< ");
        all.forEach((name, entry) -> text.append(name).append(' ').append(entry).append(' '));
        if (streams.containsKey(n)) {
            String code = Bits.plainCode(streams.get(n));
            return text + "/Length " + code.length() + " /Filter /FlateDecode >>\nstream\n" + code + "\nendstream";
        }
        return text + ">>";
    }

    private static void same(String what, House x, int answer, String want) {
        Adler32 adler = new Adler32();
        adler.update(Files.bytes(want));
        Checks.due(what + ": how many", answer, want.length());
        Checks.due(what + ": sum", x.sum(), (int) adler.getValue());
        if (x.sum() != (int) adler.getValue()) {
            Checks.due(what, Files.out(x), want);
        }
    }

    private void written(House x) {
        same("whole", x, x.whole(), whole());
        String more = more();
        same("more", x, x.more(), more);
        x.take();
        Checks.due("it loads", x.load(), pages().size());
        Checks.due("of two sections", x.count(3), 2);
        int k = 0;
        for (int n : pages()) {
            Checks.due("page " + k, x.page(k, 0), n);
            k++;
        }
    }

    private String whole() {
        StringBuilder all = new StringBuilder("%PDF-1.7\n");
        List<Integer> met = new ArrayList<>(List.of(1));
        StringBuilder entries = new StringBuilder("0000000000 65535 f \n");
        if (info > 0) {
            met.add(info);
        }
        for (int i = 0; i < met.size(); i++) {
            entries.append(String.format("%010d 00000 n \n", all.length()));
            String body = body(met.get(i));
            int end = streams.containsKey(met.get(i)) ? body.indexOf("\nstream\n") : body.length();
            Matcher matcher = REFERENCE.matcher(body.substring(0, end));
            String told = matcher.replaceAll(found -> {
                int n = Integer.parseInt(found.group(1));
                if (!objects.containsKey(n) || !found.group(2).equals("0")) {
                    return "null";
                }
                if (!met.contains(n)) {
                    met.add(n);
                }
                return met.indexOf(n) + 1 + " 0 R";
            });
            all.append(i + 1).append(" 0 obj\n").append(told).append(body, end, body.length()).append("\nendobj\n");
        }
        int xref = all.length();
        return all + "xref\n0 " + (met.size() + 1) + "\n" + entries + "trailer\n<< /Size " + (met.size() + 1) + " /Root 1 0 R"
                + (info > 0 ? " /Info 2 0 R" : "") + " >>\nstartxref\n" + xref + "\n%%EOF\n";
    }

    private String more() {
        StringBuilder all = new StringBuilder(file);
        Map<Integer, Integer> places = new TreeMap<>();
        for (int n : changed) {
            places.put(n, all.length());
            all.append(n).append(" 0 obj\n").append(body(n)).append("\nendobj\n");
        }
        int xref = all.length();
        all.append("xref\n");
        TreeSet<Integer> listed = new TreeSet<>(changed);
        for (int n = 15; n < size; n++) {
            listed.add(n);
        }
        if (listed.isEmpty()) {
            all.append("0 0\n");
        }
        for (int n : listed) {
            if (!listed.contains(n - 1)) {
                int many = 1;
                while (listed.contains(n + many)) {
                    many++;
                }
                all.append(n).append(' ').append(many).append('\n');
            }
            all.append(places.containsKey(n) ? String.format("%010d 00000 n \n", places.get(n)) : "0000000000 65535 f \n");
        }
        String start = file.substring(file.lastIndexOf("startxref\n") + 10, file.lastIndexOf("\n%%EOF"));
        return all + "trailer\n<< /Size " + size + " /Root 1 0 R" + (info > 0 ? " /Info " + info + " 0 R" : "") + " /Prev " + start
                + " >>\nstartxref\n" + xref + "\n%%EOF\n";
    }
}
