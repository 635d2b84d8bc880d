/** All promises: random files are read, looked at, shown, changed and written, and so they are by a model from the document's words. */
public final class ModelTest {
    private static final int CALLS = 512;

    private final PaperHouse house = new PaperHouse();
    private final Model model = new Model();
    private final Maker maker;
    private final String what;
    private int calls;

    private static int good;
    private static final int[] faults = new int[15];
    private static final int[] showFaults = new int[15];

    private ModelTest(long seed) {
        maker = new Maker(seed);
        what = "run " + seed;
    }

    public static void main(String[] args) {
        long first = args.length > 0 ? Long.parseLong(args[0]) : 0;
        long many = args.length > 1 ? Long.parseLong(args[1]) : 2500;
        for (long seed = first; seed < first + many; seed++) {
            new ModelTest(seed).run();
        }
        System.out.println(good + " files load; refused: " + java.util.Arrays.toString(faults) + "; pages: " + java.util.Arrays.toString(showFaults));
        Checks.due("many load", good * 4L > many, true);
        Checks.end();
    }

    private boolean mayCall(int more) {
        return calls + more <= CALLS;
    }

    private void due(String call, long got, long want) {
        calls++;
        Checks.due(what + ", call " + calls + ": " + call, got, want);
    }

    private void lay(String text) {
        int feeds = (text.length() + 19) / 20;
        calls += feeds + 2;
        house.cut(0);
        model.lay(text);
        for (int at = 0; at < text.length(); at += 20) {
            int[] five = new int[5];
            for (int i = 0; i < 20; i++) {
                five[i / 4] = five[i / 4] << 8 | (at + i < text.length() ? text.charAt(at + i) : 7);
            }
            house.feed(five[0], five[1], five[2], five[3], five[4]);
        }
        house.cut(text.length());
    }

    private void run() {
        String file = maker.file();
        if (file.length() > 7000) {
            return;
        }
        lay(file);
        load();
        boolean loads = model.pages() >= 0;
        good += loads ? 1 : 0;
        faults[model.fault(0)]++;
        while (loads && mayCall(40)) {
            step();
        }
    }

    private void load() {
        due("load", house.load(), model.load());
        due("fault(0)", house.fault(0), model.fault(0));
        due("fault(1)", house.fault(1), model.fault(1));
        due("objects", house.objects(), model.objects());
        for (int i = 0; i < 7; i++) {
            due("count(" + i + ")", house.count(i), model.count(i));
        }
    }

    private void step() {
        int k = maker.pick(Math.max(1, model.pages()) + (maker.chance(10) ? 2 : 0)) - (maker.chance(3) ? 1 : 0);
        switch (maker.pick(12)) {
            case 0:
            case 1:
                look();
                return;
            case 2:
                show(k);
                return;
            case 3:
                int w = maker.chance(90) ? 1 + maker.pick(14400) : maker.pick(3) * 7201;
                due("insert(" + k + ", " + w + ", 9)", house.insert(k, w, 9), model.insert(k, w, 9));
                break;
            case 4:
                due("delete(" + k + ")", house.delete(k), model.delete(k));
                break;
            case 5:
                int to = maker.pick(Math.max(1, model.pages()) + 1) - (maker.chance(5) ? 1 : 0);
                due("move(" + k + ", " + to + ")", house.move(k, to), model.move(k, to));
                break;
            case 6:
                int degrees = maker.pick(12) * 90 - 450 + (maker.chance(5) ? 1 : 0);
                due("turn(" + k + ", " + degrees + ")", house.turn(k, degrees) ? 1 : 0, model.turn(k, degrees) ? 1 : 0);
                break;
            case 7:
                contents(k);
                break;
            case 8:
                info();
                break;
            default:
                write();
                return;
        }
        due("pages", house.pages(), model.pages());
        due("count(0)", house.count(0), model.count(0));
        due("count(6)", house.count(6), model.count(6));
        for (int what = 0; what <= 6; what++) {
            due("page(" + k + ", " + what + ")", house.page(k, what), model.page(k, what));
        }
    }

    private void contents(int k) {
        String text = maker.painting(1 + maker.pick(20));
        if (mayCall(40 + text.length() / 20)) {
            lay(text);
            due("contents(" + k + ")", house.contents(k), model.contents(k));
            due("show(" + k + ")", house.show(k), model.show(k));
            due("fault(3)", house.fault(3), model.fault(3));
        }
    }

    private void info() {
        lay(Files.noise(maker.pick(40), maker.pick(1000)));
        int which = maker.pick(4) + (maker.chance(5) ? 2 : 0);
        due("info(" + which + ")", house.info(which), model.info(which));
        due("count(2)", house.count(2), model.count(2));
    }

    private void show(int k) {
        due("show(" + k + ")", house.show(k), model.show(k));
        due("fault(2)", house.fault(2), model.fault(2));
        due("fault(3)", house.fault(3), model.fault(3));
        showFaults[Math.max(0, model.fault(2))]++;
        for (int i = 0; i < 3; i++) {
            int glyph = maker.pick(12);
            for (int what = 0; what < 5; what++) {
                due("glyph(" + glyph + ", " + what + ")", house.glyph(glyph, what), model.glyph(glyph, what));
            }
        }
    }

    /** Goes about in an object. */
    private void look() {
        int n = maker.pick(Math.max(1, model.count(0) + 1));
        due("go(" + n + ")", house.go(n), model.go(n));
        due("size(" + n + ")", house.size(n), model.size(n));
        for (int i = 0; i < 3 && model.size(n) > 0; i++) {
            int at = maker.pick(model.size(n) + 1);
            due("data(" + n + ", " + at + ")", house.data(n, at), model.data(n, at));
        }
        for (int i = 0; i < 4; i++) {
            for (int what = 1; what < 5; what++) {
                due("here(" + what + ")", house.here(what), model.here(what));
            }
            int at = maker.pick(8);
            due("letter", house.letter(at, i % 2 == 0), model.letter(at, i % 2 == 0));
            if (maker.chance(15)) {
                due("up()", house.up(), model.up());
            } else {
                int part = maker.pick(Math.max(1, model.here(2)));
                due("down(" + part + ")", house.down(part), model.down(part));
            }
        }
    }

    private void write() {
        boolean whole = maker.chance(50);
        due(whole ? "whole" : "more", whole ? house.whole() : house.more(), whole ? model.whole() : model.more());
        due("outs", house.outs(), model.outs());
        int sum = house.sum();
        due("sum", sum, model.sum());
        if (sum != model.sum()) {
            StringBuilder got = new StringBuilder();
            for (int i = 0; i < house.outs(); i++) {
                got.append((char) house.out(i));
            }
            Checks.due(what + ": out", got.toString(), model.outText());
        }
        if (maker.chance(40)) {
            due("take", house.take(), model.take());
            load();
        }
    }
}
