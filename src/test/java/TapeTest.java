/** Promises 1 to 3 and 27 to 30: a new object, the tape and the out. */
public final class TapeTest {
    public static void main(String[] args) {
        aNewHouse();
        feedAndCut();
        theTapeIsUsedUp();
        theOut();
        Checks.end();
    }

    private static void aNewHouse() {
        PaperHouse x = new PaperHouse();
        Checks.due("NONE", PaperHouse.NONE, -1);
        Checks.due("new: objects", x.objects(), -1);
        Checks.due("new: go", x.go(1), -1);
        Checks.due("new: down", x.down(0), -1);
        Checks.due("new: up", x.up(), -1);
        Checks.due("new: here", x.here(0), -1);
        Checks.due("new: letter", x.letter(0, false), -1);
        Checks.due("new: size", x.size(1), -1);
        Checks.due("new: data", x.data(1, 0), -1);
        Checks.due("new: count", x.count(0), -1);
        Checks.due("new: pages", x.pages(), -1);
        Checks.due("new: page", x.page(0, 0), -1);
        Checks.due("new: show", x.show(0), -1);
        Checks.due("new: glyph", x.glyph(0, 0), -1);
        Checks.due("new: insert", x.insert(0, 1, 1), -1);
        Checks.due("new: delete", x.delete(0), -1);
        Checks.due("new: move", x.move(0, 0), -1);
        Checks.due("new: turn", x.turn(0, 90), false);
        Checks.due("new: contents", x.contents(0), -1);
        Checks.due("new: info", x.info(0), -1);
        Checks.due("new: whole", x.whole(), -1);
        Checks.due("new: more", x.more(), -1);
        Checks.due("new: outs", x.outs(), 0);
        Checks.due("new: out", x.out(0), -1);
        Checks.due("new: sum", x.sum(), 1);
        Checks.due("new: take", x.take(), 0);
        Checks.due("new: fault(0)", x.fault(0), 0);
        Checks.due("new: fault(1)", x.fault(1), -1);
        Checks.due("new: fault(2)", x.fault(2), 0);
        Checks.due("new: fault(3)", x.fault(3), -1);
        Checks.due("new: fault(4)", x.fault(4), -1);
        Checks.due("new: fault(-1)", x.fault(-1), -1);
        Checks.due("new: cut(0)", x.cut(0), 0);
        Checks.due("new: cut(1)", x.cut(1), -1);
    }

    private static void feedAndCut() {
        PaperHouse x = new PaperHouse();
        for (int i = 1; i <= 400; i++) {
            Checks.due("feed " + i, x.feed(0, -1, i, 7, 8), 20 * i);
        }
        Checks.due("feed beyond", x.feed(1, 2, 3, 4, 5), -1);
        Checks.due("cut below 0", x.cut(-1), -1);
        Checks.due("cut more than it has", x.cut(8001), -1);
        Checks.due("cut all it has", x.cut(8000), 0);
        Checks.due("cut to 7981", x.cut(7981), 19);
        Checks.due("feed beyond by one", x.feed(1, 2, 3, 4, 5), -1);
        Checks.due("cut to 7980", x.cut(7980), 1);
        Checks.due("feed just full", x.feed(1, 2, 3, 4, 5), 8000);
        Checks.due("cut to none", x.cut(0), 8000);
        Checks.due("feed from none", x.feed(1, 2, 3, 4, 5), 20);
    }

    private static void theTapeIsUsedUp() {
        PaperHouse x = new PaperHouse();
        Files.feed(x, "abc");
        Checks.due("load of nonsense", x.load(), -101);
        Checks.due("the tape behind load", x.cut(1), -1);
        Files.feed(x, "abc");
        Checks.due("contents without a document", x.contents(0), -1);
        Checks.due("the tape behind contents", x.cut(1), -1);
        Files.feed(x, "abc");
        Checks.due("info without a document", x.info(0), -1);
        Checks.due("the tape behind info", x.cut(1), -1);
        Files.load(x, Files.empty().table("/Root 1 0 R"));
        Files.feed(x, "abc");
        Checks.due("contents of no page", x.contents(0), -1);
        Checks.due("the tape behind contents refused", x.cut(1), -1);
        Files.feed(x, "abc");
        Checks.due("info of another number", x.info(4), -1);
        Checks.due("the tape behind info refused", x.cut(1), -1);
    }

    private static void theOut() {
        PaperHouse x = Checks.loads("out", Files.empty().table("/Root 1 0 R"), 0);
        int many = x.whole();
        Checks.due("outs", x.outs(), many);
        Checks.due("out below", x.out(-1), -1);
        Checks.due("out first", x.out(0), '%');
        Checks.due("out last", x.out(many - 1), 10);
        Checks.due("out beyond", x.out(many), -1);
        java.util.zip.Adler32 adler = new java.util.zip.Adler32();
        adler.update(Files.bytes(Files.out(x)));
        Checks.due("sum", x.sum(), (int) adler.getValue());
        Files.feed(x, "something else");
        Checks.due("take", x.take(), many);
        Checks.due("the out stays", x.outs(), many);
        Checks.due("the tape has them", x.cut(many), 0);
        Checks.due("load of it", x.load(), 0);
        Checks.due("the out stays behind load", x.outs(), many);
        Files.load(x, "nonsense");
        Checks.due("the out stays behind a fault", x.outs(), many);
        Checks.due("whole without a document", x.whole(), -1);
        Checks.due("the out is empty then", x.outs(), 0);
        Checks.due("the sum is 1 then", x.sum(), 1);

        PaperHouse y = Checks.loads("large out", largeFile(), 1);
        Checks.due("whole of it", y.whole() > 8000, true);
        Files.feed(y, "abc");
        Checks.due("take of too much", y.take(), -1);
        Checks.due("the tape stays", y.cut(3), 0);
        Checks.due("more of it", y.more() > 7400, true);
        for (int i = 0; i < 2; i++) {
            Checks.due("contents more", Files.contents(y, 0, Files.noise(7900, i + 9)) > 0, true);
        }
        Checks.due("more of more", y.more() > 24000, true);
        Checks.due("contents once more", Files.contents(y, 0, Files.noise(7900, 99)) > 0, true);
        Checks.due("more is more than 30000", y.more(), -1);
        Checks.due("outs then", y.outs(), 0);
        java.util.zip.Adler32 none = new java.util.zip.Adler32();
        Checks.due("sum then", y.sum(), (int) none.getValue());
    }

    private static String largeFile() {
        return new Files().object(1, Files.CATALOG).object(2, Files.ONE_PAGE)
                .object(3, "<< /Type /Page /Parent 2 0 R /A 4 0 R /MediaBox [ 0 0 10 20 ] >>")
                .stream(4, "", Files.noise(7400, 1)).table("/Root 1 0 R");
    }
}
