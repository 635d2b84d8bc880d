import java.util.function.Consumer;

/** Promises 2 to 30: what is refused changes nothing; but what reads the tape uses it up, whatever it answers. */
public final class RefusedTest {
    private static final int[] FAR = {-2147483648, -1, 199, 200, 2147483647};

    public static void main(String[] args) {
        ofADocument(house -> { });
        ofADocument(house -> house.go(2));
        ofADocument(house -> {
            house.go(2);
            house.down(1);
            house.down(0);
        });
        ofADocument(house -> house.go(4));
        tapeReaders();
        cursorCalls();
        outCalls();
        loads();
        fullHouses();
        Checks.end();
    }

    /** A changed document with glyphs, an out, a tape, the cursor where that says. */
    private static House house(Consumer<House> cursor) {
        House x = new House();
        Files.load(x, new Files().object(1, Files.CATALOG).object(2, "<< /Type /Pages /Kids [ 3 0 R 5 0 R ] /Count 2 >>")
                .object(3, Files.PAGE.replace(" >>", " /Resources << /Font << /F 6 0 R >> >> /Contents 4 0 R >>"))
                .stream(4, "/K (v)", "BT /F 2 Tf (ABC) Tj ET").object(5, Files.PAGE)
                .object(6, "<< /Type /Font /FirstChar 65 /LastChar 66 /Widths [ 500 600 ] >>").table("/Root 1 0 R"));
        x.insert(2, 30, 40);
        x.turn(1, 90);
        Files.info(x, 0, "title");
        x.show(0);
        x.whole();
        Files.feed(x, "some bytes for the tape");
        cursor.accept(x);
        return x;
    }

    /** All that can be seen of a house; it is changed by that. */
    private static String look(House x) {
        StringBuilder all = new StringBuilder();
        for (int what = 0; what < 5; what++) {
            all.append(x.here(what)).append(' ').append(x.fault(what)).append(' ');
        }
        all.append(x.letter(0, true)).append(' ').append(x.letter(0, false)).append('\n');
        for (int up = x.up(); up >= 0; up = x.up()) {
            all.append("up ").append(up).append(' ').append(x.here(0)).append(' ').append(x.here(2)).append('\n');
        }
        for (int what = -1; what < 8; what++) {
            all.append("count ").append(x.count(what)).append('\n');
        }
        all.append(x.objects()).append(' ').append(x.pages()).append('\n');
        for (int k = 0; k < x.pages(); k++) {
            for (int what = 0; what < 7; what++) {
                all.append(x.page(k, what)).append(' ');
            }
        }
        for (int i = 0; x.glyph(i, 0) >= 0; i++) {
            for (int what = 0; what < 5; what++) {
                all.append("glyph ").append(x.glyph(i, what)).append(' ');
            }
        }
        all.append('\n').append(x.outs()).append(' ').append(x.sum()).append(Files.out(x));
        for (int n = 1; n < 200; n++) {
            if (x.size(n) >= 0) {
                all.append("stream ").append(n).append(Files.data(x, n));
            }
        }
        if (x.pages() >= 0) {
            x.whole();
            all.append(Files.out(x));
            x.more();
            all.append(Files.out(x));
        }
        int n = x.contents(0);
        all.append("tape ").append(n < 0 ? "" : Files.data(x, n));
        return all.toString();
    }

    /** A call that must answer so, and change nothing but that the tape may be used up. */
    private static void refused(String what, Consumer<House> cursor, Call call, int answer, boolean usesTape) {
        House asked = house(cursor);
        Checks.due(what, call.of(asked), answer);
        House other = house(cursor);
        if (usesTape) {
            other.cut(0);
        }
        Checks.due(what + ": what can be seen", look(asked), look(other));
    }

    private interface Call {
        int of(House x);
    }

    private static void ofADocument(Consumer<House> cursor) {
        for (int n : FAR) {
            refused("cut " + n, cursor, x -> x.cut(n), -1, false);
            refused("size " + n, cursor, x -> x.size(n), -1, false);
            refused("data " + n, cursor, x -> x.data(n, 0), -1, false);
            refused("data at " + n, cursor, x -> x.data(4, n), -1, false);
            refused("count " + n, cursor, x -> x.count(n), -1, false);
            refused("fault " + n, cursor, x -> x.fault(n), -1, false);
            refused("here " + n, cursor, x -> x.here(n), -1, false);
            refused("letter " + n, cursor, x -> x.letter(n, false) + x.letter(n, true), -2, false);
            refused("down " + n, cursor, x -> x.down(n), -1, false);
            refused("page " + n, cursor, x -> x.page(n, 0) + x.page(0, n), 0, false);
            refused("show " + n, cursor, x -> x.show(n), -1, false);
            refused("glyph " + n, cursor, x -> x.glyph(n, 0) + x.glyph(0, n), -2, false);
            refused("insert " + n, cursor, x -> x.insert(n, 1, 1), -1, false);
            refused("delete " + n, cursor, x -> x.delete(n), -1, false);
            refused("move " + n, cursor, x -> x.move(n, 0), -1, false);
            refused("move to " + n, cursor, x -> x.move(0, n), -1, false);
            refused("turn " + n, cursor, x -> x.turn(n, 90) ? 1 : 0, 0, false);
            refused("turn by " + n, cursor, x -> x.turn(0, n) ? 1 : 0, 0, false);
            refused("contents " + n, cursor, x -> x.contents(n), -1, true);
            refused("info " + n, cursor, x -> x.info(n), -1, true);
            refused("out " + n, cursor, x -> x.out(n < 0 || n > 200 ? n : 29999), -1, false);
        }
        for (int side : new int[] {-2147483648, -1, 0, 14401, 2147483647}) {
            refused("insert of w " + side, cursor, x -> x.insert(0, side, 1), -1, false);
            refused("insert of h " + side, cursor, x -> x.insert(0, 1, side), -1, false);
        }
        for (int degrees : new int[] {-450, -361, -359, -91, -89, -1, 1, 45, 89, 91, 359, 361, 450}) {
            refused("turn by " + degrees, cursor, x -> x.turn(0, degrees) ? 1 : 0, 0, false);
        }
        refused("show of page 3", cursor, x -> x.show(3), -1, false);
        refused("insert at 4", cursor, x -> x.insert(4, 1, 1), -1, false);
        refused("delete 3", cursor, x -> x.delete(3), -1, false);
        refused("move 3", cursor, x -> x.move(3, 0), -1, false);
        refused("move to 3", cursor, x -> x.move(0, 3), -1, false);
        refused("turn page 3", cursor, x -> x.turn(3, 90) ? 1 : 0, 0, false);
        refused("contents of page 3", cursor, x -> x.contents(3), -1, true);
        refused("info 4", cursor, x -> x.info(4), -1, true);
        refused("count 7", cursor, x -> x.count(7), -1, false);
        refused("fault 4", cursor, x -> x.fault(4), -1, false);
        refused("here 5", cursor, x -> x.here(5), -1, false);
        refused("page 0, 7", cursor, x -> x.page(0, 7), 0, false);
        refused("glyph 3", cursor, x -> x.glyph(3, 0), -1, false);
        refused("glyph 0, 5", cursor, x -> x.glyph(0, 5), -1, false);
        refused("size of a dict", cursor, x -> x.size(2), -1, false);
    }

    /** What reads the tape uses it up, also when it is refused for its bytes, or for want of numbers. */
    private static void tapeReaders() {
        Consumer<House> none = house -> { };
        refused("info of 2001 bytes", none, x -> {
            Files.feed(x, Files.repeat("x", 2001));
            return x.info(0);
        }, -1, true);
        House x = house(none);
        Checks.due("contents", x.contents(0) > 0, true);
        Checks.due("the tape behind contents", x.cut(1), -1);
        Files.feed(x, "abc");
        Checks.due("info", x.info(0) > 0, true);
        Checks.due("the tape behind info", x.cut(1), -1);
        Files.feed(x, "abc");
        Checks.due("load", x.load(), -101);
        Checks.due("the tape behind load", x.cut(1), -1);
        for (int call = 0; call < 3; call++) {
            House y = new House();
            y.feed(1, 2, 3, 4, 5);
            int answer = call == 0 ? y.contents(0) : call == 1 ? y.info(0) : y.load();
            Checks.due("without a document " + call, answer, call == 2 ? -101 : -1);
            Checks.due("the tape then " + call, y.cut(1), -1);
        }
    }

    private static void cursorCalls() {
        for (int n : new int[] {-2147483648, -1, 0, 9, 199, 200, 2147483647}) {
            House x = house(house -> house.go(2));
            Checks.due("go " + n, x.go(n), -1);
            Checks.due("it is nowhere", x.here(0), -1);
            House y = house(house -> { });
            String due = look(y);
            House z = house(house -> house.go(2));
            z.go(n);
            Checks.due("nothing else is changed", look(z), due);
        }
        refused("up at an object", house -> house.go(2), x -> x.up(), -1, false);
        refused("up from nowhere", house -> { }, x -> x.up(), -1, false);
        refused("down from nowhere", house -> { }, x -> x.down(0), -1, false);
        refused("down to part 2 of 2", house -> {
            house.go(2);
            house.down(1);
        }, x -> x.down(3), -1, false);
        refused("here nowhere", house -> { }, x -> x.here(0), -1, false);
    }

    /** A way to write that is refused leaves the out empty, and all else as it was. */
    private static void outCalls() {
        House x = house(house -> house.go(2));
        Files.load(x, "nothing");
        Checks.due("the out stays behind load", x.outs() > 0, true);
        Checks.due("whole without a document", x.whole(), -1);
        Checks.due("it is empty", x.outs(), 0);
        Checks.due("its sum", x.sum(), 1);
        House large = large();
        large.go(2);
        large.down(1);
        Checks.due("whole is written", large.whole() > 8000, true);
        Files.feed(large, "abc");
        Checks.due("take of too much", large.take(), -1);
        Checks.due("the tape stays", large.cut(3), 0);
        Checks.due("more is too much", large.more(), -1);
        Checks.due("the out is empty", large.outs(), 0);
        Checks.due("the tape stays again", large.cut(3), 0);
        Checks.due("the cursor stays", large.here(4), 4);
        Checks.due("changed stays", large.count(6), 5);
    }

    /** A document that is too much for MORE, not for WHOLE. */
    private static House large() {
        House x = Checks.loads("a large one", Files.heavy(5, 5760), 5);
        for (int k = 0; k < 5; k++) {
            x.turn(k, 90);
        }
        return x;
    }

    /** A file that is refused: the document is none any more, the cursor nowhere, but the out stays. */
    private static void loads() {
        String[] files = {"", "%PDF-1.4", Files.paged().table(""), Files.paged().table("/Root 1 0 R /Size 1"), Files.paged().object(9, ")").table("/Root 1 0 R")};
        int[] faults = {1, 2, 10, 5, 4};
        for (int i = 0; i < files.length; i++) {
            House x = house(house -> house.go(2));
            int outs = x.outs();
            int sum = x.sum();
            Checks.due("load of file " + i, Files.load(x, files[i]), -100 - faults[i]);
            Checks.due("its fault", x.fault(0), faults[i]);
            Checks.due("no document", x.pages() + x.objects() + x.count(0) + x.go(1) + x.page(0, 0), -5);
            Checks.due("the cursor is nowhere", x.here(0), -1);
            Checks.due("nothing is shown", x.glyph(0, 0), -1);
            Checks.due("no fault of show", x.fault(2) + x.fault(3), -1);
            Checks.due("the out stays", x.outs(), outs);
            Checks.due("its sum", x.sum(), sum);
            Checks.due("a good one", Files.load(x, Files.paged().table("/Root 1 0 R")), 1);
            Checks.due("no fault any more", x.fault(0) * 10 + x.fault(1), -1);
        }
    }

    /** What is refused because a house is full. */
    private static void fullHouses() {
        String file = Files.paged().stream(4, "", Files.repeat("x", 100)).table("/Root 1 0 R", 199);
        for (int call = 0; call < 3; call++) {
            House[] two = new House[2];
            for (int i = 0; i < 2; i++) {
                two[i] = Checks.loads("full", file, 1);
                Files.contents(two[i], 0, "S");
                two[i].go(3);
            }
            Files.feed(two[0], "abc");
            int answer = call == 0 ? two[0].insert(0, 1, 1) : call == 1 ? two[0].contents(0) : two[0].info(1);
            Checks.due("no number is left " + call, answer, -1);
            two[0].cut(0);
            Checks.due("nothing is changed " + call, look(two[0]), look(two[1]));
        }
        House[] many = new House[2];
        for (int i = 0; i < 2; i++) {
            many[i] = Checks.loads("bytes", Files.streamed(39995), 1);
            many[i].go(3);
        }
        Checks.due("too many bytes", Files.contents(many[0], 0, "123456"), -1);
        Checks.due("nothing is changed by that", look(many[0]), look(many[1]));
        House tape = new House();
        for (int i = 0; i < 400; i++) {
            tape.feed(i, i, i, i, i);
        }
        Checks.due("a full tape", tape.feed(7, 7, 7, 7, 7), -1);
        Checks.due("has 8000 still", tape.cut(8000), 0);
    }
}
