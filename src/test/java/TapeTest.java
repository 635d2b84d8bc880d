/** Promises 1 to 3 and 27 to 30: a new object, the tape and the out. */
public final class TapeTest {
    public static void main(String[] args) {
        aNewHouse();
        feedAndCut();
        theTapeIsUsedUp();
        theOut();
        bytesOfFeed();
        edgesOfCut();
        edgesOfOut();
        anEmptyOut();
        everyAnswerOfANewHouse();
        Checks.end();
    }

    private static void aNewHouse() {
        House x = new House();
        Checks.due("NONE", PaperHouse.NONE, -1);
        Checks.due("new: objects", x.objects(), -1);
        Checks.due("new: go", x.go(1), -1);
        Checks.due("new: down", x.down(0), -1);
        Checks.due("new: up", x.up(), -1);
        Checks.due("new: here", x.here(0), -1);
        Checks.due("new: letter", x.letter(0, false), -1);
        Checks.due("new: size", x.size(1), -1);
        Checks.due("new: data", x.data(1, 0), -1);
        Checks.due("new: count", x.count(0), -1);
        Checks.due("new: pages", x.pages(), -1);
        Checks.due("new: page", x.page(0, 0), -1);
        Checks.due("new: show", x.show(0), -1);
        Checks.due("new: glyph", x.glyph(0, 0), -1);
        Checks.due("new: insert", x.insert(0, 1, 1), -1);
        Checks.due("new: delete", x.delete(0), -1);
        Checks.due("new: move", x.move(0, 0), -1);
        Checks.due("new: turn", x.turn(0, 90), false);
        Checks.due("new: contents", x.contents(0), -1);
        Checks.due("new: info", x.info(0), -1);
        Checks.due("new: whole", x.whole(), -1);
        Checks.due("new: more", x.more(), -1);
        Checks.due("new: outs", x.outs(), 0);
        Checks.due("new: out", x.out(0), -1);
        Checks.due("new: sum", x.sum(), 1);
        Checks.due("new: take", x.take(), 0);
        Checks.due("new: fault(0)", x.fault(0), 0);
        Checks.due("new: fault(1)", x.fault(1), -1);
        Checks.due("new: fault(2)", x.fault(2), 0);
        Checks.due("new: fault(3)", x.fault(3), -1);
        Checks.due("new: fault(4)", x.fault(4), -1);
        Checks.due("new: fault(-1)", x.fault(-1), -1);
        Checks.due("new: cut(0)", x.cut(0), 0);
        Checks.due("new: cut(1)", x.cut(1), -1);
    }

    private static void feedAndCut() {
        House x = new House();
        for (int i = 1; i <= 400; i++) {
            Checks.due("feed " + i, x.feed(0, -1, i, 7, 8), 20 * i);
        }
        Checks.due("feed beyond", x.feed(1, 2, 3, 4, 5), -1);
        Checks.due("cut below 0", x.cut(-1), -1);
        Checks.due("cut more than it has", x.cut(8001), -1);
        Checks.due("cut all it has", x.cut(8000), 0);
        Checks.due("cut to 7981", x.cut(7981), 19);
        Checks.due("feed beyond by one", x.feed(1, 2, 3, 4, 5), -1);
        Checks.due("cut to 7980", x.cut(7980), 1);
        Checks.due("feed just full", x.feed(1, 2, 3, 4, 5), 8000);
        Checks.due("cut to none", x.cut(0), 8000);
        Checks.due("feed from none", x.feed(1, 2, 3, 4, 5), 20);
    }

    private static void theTapeIsUsedUp() {
        House x = new House();
        Files.feed(x, "abc");
        Checks.due("load of nonsense", x.load(), -101);
        Checks.due("the tape behind load", x.cut(1), -1);
        Files.feed(x, "abc");
        Checks.due("contents without a document", x.contents(0), -1);
        Checks.due("the tape behind contents", x.cut(1), -1);
        Files.feed(x, "abc");
        Checks.due("info without a document", x.info(0), -1);
        Checks.due("the tape behind info", x.cut(1), -1);
        Files.load(x, Files.empty().table("/Root 1 0 R"));
        Files.feed(x, "abc");
        Checks.due("contents of no page", x.contents(0), -1);
        Checks.due("the tape behind contents refused", x.cut(1), -1);
        Files.feed(x, "abc");
        Checks.due("info of another number", x.info(4), -1);
        Checks.due("the tape behind info refused", x.cut(1), -1);
    }

    private static void theOut() {
        House x = Checks.loads("out", Files.empty().table("/Root 1 0 R"), 0);
        int many = x.whole();
        Checks.due("outs", x.outs(), many);
        Checks.due("out below", x.out(-1), -1);
        Checks.due("out first", x.out(0), '%');
        Checks.due("out last", x.out(many - 1), 10);
        Checks.due("out beyond", x.out(many), -1);
        java.util.zip.Adler32 adler = new java.util.zip.Adler32();
        adler.update(Files.bytes(Files.out(x)));
        Checks.due("sum", x.sum(), (int) adler.getValue());
        Files.feed(x, "something else");
        Checks.due("take", x.take(), many);
        Checks.due("the out stays", x.outs(), many);
        Checks.due("the tape has them", x.cut(many), 0);
        Checks.due("load of it", x.load(), 0);
        Checks.due("the out stays behind load", x.outs(), many);
        Files.load(x, "nonsense");
        Checks.due("the out stays behind a fault", x.outs(), many);
        Checks.due("whole without a document", x.whole(), -1);
        Checks.due("the out is empty then", x.outs(), 0);
        Checks.due("the sum is 1 then", x.sum(), 1);

        House y = Checks.loads("large out", Files.heavy(5, 5600), 5);
        Checks.due("whole of it", y.whole() > 28000, true);
        Files.feed(y, "abc");
        Checks.due("take of too much", y.take(), -1);
        Checks.due("the tape stays", y.cut(3), 0);
        Checks.due("more of it", y.more() < 2000, true);
        for (int k = 0; k < 5; k++) {
            Checks.due("turn", y.turn(k, 90), true);
            Checks.due("more of " + k, y.more() > 5600 * (k + 1), true);
        }
        for (int i = 0; i < 3; i++) {
            Checks.due("info", Files.info(y, i, Files.repeat("i", 400)) > 0, true);
        }
        Checks.due("more is more than 30000", y.more(), -1);
        Checks.due("outs then", y.outs(), 0);
        Checks.due("sum then", y.sum(), 1);
        Checks.due("take then", y.take(), 0);
    }

    /** Each number's highest byte comes first; the numbers come in their order. */
    private static void bytesOfFeed() {
        House x = Checks.loads("a page", Files.paged().table("/Root 1 0 R"), 1);
        Checks.due("feed", x.feed(0x01020304, 0x85868788, -1, 0x7fffffff, 0x80000000), 20);
        int n = x.contents(0);
        int[] want = {1, 2, 3, 4, 0x85, 0x86, 0x87, 0x88, 255, 255, 255, 255, 127, 255, 255, 255, 128, 0, 0, 0};
        Checks.due("size", x.size(n), 20);
        for (int i = 0; i < 20; i++) {
            Checks.due("byte " + i, x.data(n, i), want[i]);
        }
        for (int kept = 0; kept <= 20; kept++) {
            x.feed(0x11121314, 0x15161718, 0x191a1b1c, 0x1d1e1f20, 0x21222324);
            Checks.due("cut to " + kept, x.cut(kept), 20 - kept);
            Checks.due("feed behind " + kept, x.feed(1, 2, 3, 4, 5), kept + 20);
            n = x.contents(0);
            Checks.due("size behind " + kept, x.size(n), kept + 20);
            for (int i = 0; i < kept; i++) {
                Checks.due("kept byte " + i, x.data(n, i), 0x11 + i);
            }
            Checks.due("the next", x.data(n, kept + 3), 1);
        }
    }

    private static void edgesOfCut() {
        House x = new House();
        x.feed(1, 2, 3, 4, 5);
        for (int n : new int[] {-2147483648, -20, -1, 21, 22, 8000, 2147483647}) {
            Checks.due("cut " + n, x.cut(n), -1);
            Checks.due("it has as many still", x.cut(20), 0);
        }
        Checks.due("cut to 19", x.cut(19), 1);
        Checks.due("not to 20 then", x.cut(20), -1);
        Checks.due("to 0", x.cut(0), 19);
        Checks.due("to 0 again", x.cut(0), 0);
        House full = new House();
        for (int i = 0; i < 399; i++) {
            full.feed(1, 2, 3, 4, 5);
        }
        Checks.due("7980 and 20", full.feed(1, 2, 3, 4, 5), 8000);
        for (int kept = 8000; kept >= 7981; kept--) {
            full.cut(kept);
            Checks.due("feed behind " + kept, full.feed(1, 2, 3, 4, 5), -1);
            Checks.due("nothing came", full.cut(kept), 0);
        }
        full.cut(7980);
        Checks.due("feed behind 7980", full.feed(1, 2, 3, 4, 5), 8000);
    }

    private static void edgesOfOut() {
        House x = Checks.loads("a page", Files.paged().table("/Root 1 0 R"), 1);
        for (int i : new int[] {-2147483648, -1, 0, 1, 2147483647}) {
            Checks.due("nothing yet at " + i, x.out(i), -1);
        }
        int many = x.more();
        for (int i : new int[] {-2147483648, -1, many, many + 1, 29999, 30000, 2147483647}) {
            Checks.due("no byte " + i, x.out(i), -1);
        }
        Checks.due("the first", x.out(0), '%');
        Checks.due("the last", x.out(many - 1), 10);
        Files.contents(x, 0, Files.noise(3000, 6));
        x.more();
        boolean[] seen = new boolean[256];
        for (int i = 0; i < x.outs(); i++) {
            int c = x.out(i);
            Checks.due("byte " + i, c >= 0 && c < 256, true);
            seen[c & 255] = true;
        }
        int kinds = 0;
        for (boolean one : seen) {
            kinds += one ? 1 : 0;
        }
        Checks.due("bytes of all kinds", kinds > 250, true);
    }

    private static void anEmptyOut() {
        House x = new House();
        x.feed(1, 2, 3, 4, 5);
        Checks.due("take of nothing", x.take(), 0);
        Checks.due("the tape is empty", x.cut(1), -1);
        Checks.due("sum of nothing", x.sum(), 1);
        x.feed(1, 2, 3, 4, 5);
        Checks.due("whole without a document", x.whole(), -1);
        Checks.due("the tape stays", x.cut(20), 0);
        Checks.due("more without a document", x.more(), -1);
        Checks.due("the tape stays", x.cut(20), 0);
    }

    /** Every call of a new house, and of one whose file was refused, with far numbers. */
    private static void everyAnswerOfANewHouse() {
        for (int round = 0; round < 2; round++) {
            House x = new House();
            if (round == 1) {
                Files.load(x, Files.paged().table("/Root 1 0 R"));
                x.go(1);
                x.show(0);
                Checks.due("refused", Files.load(x, Files.paged().table("/Root 9 0 R")), -110);
            }
            for (int n : new int[] {-2147483648, -1, 0, 1, 2, 3, 200, 2147483647}) {
                Checks.due("objects and pages", x.objects() + x.pages(), -2);
                Checks.due("go " + n, x.go(n), -1);
                Checks.due("down " + n, x.down(n), -1);
                Checks.due("up", x.up(), -1);
                Checks.due("here " + n, x.here(n), -1);
                Checks.due("letter " + n, x.letter(n, true) + x.letter(n, false), -2);
                Checks.due("size " + n, x.size(n), -1);
                Checks.due("data " + n, x.data(n, 0) + x.data(3, n), -2);
                Checks.due("count " + n, x.count(n), -1);
                Checks.due("page " + n, x.page(n, 0) + x.page(0, n), -2);
                Checks.due("show " + n, x.show(n), -1);
                Checks.due("glyph " + n, x.glyph(n, 0) + x.glyph(0, n), -2);
                Checks.due("insert " + n, x.insert(n, 1, 1), -1);
                Checks.due("delete " + n, x.delete(n), -1);
                Checks.due("move " + n, x.move(n, 0), -1);
                Checks.due("turn " + n, x.turn(n, 90), false);
                Checks.due("contents " + n, x.contents(n), -1);
                Checks.due("info " + n, x.info(n), -1);
                Checks.due("whole and more", x.whole() + x.more(), -2);
                Checks.due("out " + n, x.out(n), -1);
            }
            Checks.due("fault(0)", x.fault(0), round == 0 ? 0 : 10);
            Checks.due("fault(1)", x.fault(1), round == 0 ? -1 : 0);
            Checks.due("fault(2)", x.fault(2), 0);
            Checks.due("fault(3)", x.fault(3), -1);
            for (int what : new int[] {-2147483648, -1, 4, 2147483647}) {
                Checks.due("fault of " + what, x.fault(what), -1);
            }
        }
    }
}
