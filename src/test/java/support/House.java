import java.util.ArrayList;
import java.util.List;

/**
 * A house that keeps to the 512 calls that the document promises: when one had so many, a new one is brought to the
 * same state, by the calls that made it, and goes on.
 */
final class House {
    private static final int MOST = 512;

    /** A call that changes something; bytes: what the tape has then, null: what it has by the calls before. */
    private static final class Step {
        final String call;
        final int[] numbers;
        final byte[] bytes;

        Step(String call, byte[] bytes, int... numbers) {
            this.call = call;
            this.bytes = bytes;
            this.numbers = numbers;
        }

        boolean writes() {
            return call.equals("whole") || call.equals("more");
        }
    }

    private PaperHouse house = new PaperHouse();
    private int calls;
    // By these the out came to be, if it was written ahead of the file that was read last.
    private List<Step> elder = new ArrayList<>();
    private List<Step> steps = new ArrayList<>();
    private boolean outIsLost;
    // What the tape has; null: it has what take() and the steps behind it brought.
    private byte[] tape = new byte[0];
    private final List<Integer> path = new ArrayList<>();

    private PaperHouse ask() {
        if (calls >= MOST) {
            renew(false);
        }
        calls++;
        return house;
    }

    /** For calls that tell something of the out. */
    private PaperHouse askOfOut() {
        if (outIsLost) {
            renew(true);
        }
        if (calls >= MOST) {
            renew(!elder.isEmpty());
        }
        calls++;
        return house;
    }

    private void renew(boolean withElder) {
        house = new PaperHouse();
        calls = 0;
        outIsLost = !withElder && !elder.isEmpty();
        if (withElder) {
            elder.forEach(this::go);
        }
        steps.forEach(this::go);
        if (tape != null) {
            lay(tape);
        }
        for (int i = 0; i < path.size(); i++) {
            calls++;
            int kind = i == 0 ? house.go(path.get(i)) : house.down(path.get(i));
            if (kind < 0) {
                throw new IllegalStateException("the cursor can't be brought back");
            }
        }
        if (calls >= MOST) {
            throw new IllegalStateException("a test needs more than 512 calls");
        }
    }

    /** The tape becomes these bytes. */
    private void lay(byte[] bytes) {
        calls++;
        house.cut(0);
        int[] five = new int[5];
        for (int at = 0; at < bytes.length; at += 20) {
            for (int i = 0; i < 20; i++) {
                five[i / 4] = five[i / 4] << 8 | (at + i < bytes.length ? bytes[at + i] & 255 : 0);
            }
            calls++;
            house.feed(five[0], five[1], five[2], five[3], five[4]);
        }
        if (bytes.length % 20 != 0) {
            calls++;
            house.cut(bytes.length);
        }
    }

    private void go(Step step) {
        if (step.bytes != null) {
            lay(step.bytes);
        }
        calls++;
        int[] n = step.numbers;
        switch (step.call) {
            case "load" -> house.load();
            case "show" -> house.show(n[0]);
            case "insert" -> house.insert(n[0], n[1], n[2]);
            case "delete" -> house.delete(n[0]);
            case "move" -> house.move(n[0], n[1]);
            case "turn" -> house.turn(n[0], n[1]);
            case "contents" -> house.contents(n[0]);
            case "info" -> house.info(n[0]);
            case "whole" -> house.whole();
            case "more" -> house.more();
            case "take" -> house.take();
            case "cut" -> house.cut(n[0]);
            default -> house.feed(n[0], n[1], n[2], n[3], n[4]);
        }
    }

    private int changed(int answer, String call, int... numbers) {
        if (answer >= 0) {
            steps.add(new Step(call, null, numbers));
            path.clear();
        }
        return answer;
    }

    private byte[] usedTape() {
        byte[] used = tape;
        tape = new byte[0];
        return used;
    }

    int feed(int a, int b, int c, int d, int e) {
        int answer = ask().feed(a, b, c, d, e);
        if (answer >= 0 && tape == null) {
            steps.add(new Step("feed", null, a, b, c, d, e));
        } else if (answer >= 0) {
            byte[] more = java.util.Arrays.copyOf(tape, tape.length + 20);
            int[] five = {a, b, c, d, e};
            for (int i = 0; i < 20; i++) {
                more[tape.length + i] = (byte) (five[i / 4] >> 24 - i % 4 * 8);
            }
            tape = more;
        }
        return answer;
    }

    int cut(int n) {
        int answer = ask().cut(n);
        if (answer >= 0 && n == 0) {
            tape = new byte[0];
        } else if (answer >= 0 && tape == null) {
            steps.add(new Step("cut", null, n));
        } else if (answer >= 0) {
            tape = java.util.Arrays.copyOf(tape, n);
        }
        return answer;
    }

    int load() {
        int answer = ask().load();
        byte[] file = usedTape();
        if (file != null) {
            int last = steps.size() - 1;
            while (last >= 0 && !steps.get(last).writes()) {
                last--;
            }
            boolean takes = steps.stream().anyMatch(step -> step.call.equals("take"));
            if (takes) {
                elder.addAll(steps);
            } else if (last >= 0) {
                elder = new ArrayList<>(steps.subList(0, last + 1));
            }
            steps = new ArrayList<>();
        }
        steps.add(new Step("load", file));
        path.clear();
        return answer;
    }

    int fault(int what) {
        return ask().fault(what);
    }

    int objects() {
        return ask().objects();
    }

    int go(int n) {
        int answer = ask().go(n);
        path.clear();
        if (answer >= 0) {
            path.add(n);
        }
        return answer;
    }

    int down(int i) {
        int answer = ask().down(i);
        if (answer >= 0) {
            path.add(i);
        }
        return answer;
    }

    int up() {
        int answer = ask().up();
        if (answer >= 0 && path.size() > 1) {
            path.remove(path.size() - 1);
        }
        return answer;
    }

    int here(int what) {
        return ask().here(what);
    }

    int letter(int i, boolean key) {
        return ask().letter(i, key);
    }

    int size(int n) {
        return ask().size(n);
    }

    int data(int n, int i) {
        return ask().data(n, i);
    }

    int count(int what) {
        return ask().count(what);
    }

    int pages() {
        return ask().pages();
    }

    int page(int k, int what) {
        return ask().page(k, what);
    }

    int show(int k) {
        int answer = ask().show(k);
        if (answer != PaperHouse.NONE) {
            steps.removeIf(step -> step.call.equals("show"));
            steps.add(new Step("show", null, k));
        }
        return answer;
    }

    int glyph(int i, int what) {
        return ask().glyph(i, what);
    }

    int insert(int k, int w, int h) {
        return changed(ask().insert(k, w, h), "insert", k, w, h);
    }

    int delete(int k) {
        return changed(ask().delete(k), "delete", k);
    }

    int move(int k, int to) {
        return changed(ask().move(k, to), "move", k, to);
    }

    boolean turn(int k, int degrees) {
        return changed(ask().turn(k, degrees) ? 0 : -1, "turn", k, degrees) == 0;
    }

    int contents(int k) {
        return used(ask().contents(k), "contents", k);
    }

    int info(int which) {
        return used(ask().info(which), "info", which);
    }

    private int used(int answer, String call, int number) {
        byte[] bytes = usedTape();
        if (answer >= 0) {
            steps.add(new Step(call, bytes, number));
            path.clear();
        }
        return answer;
    }

    int whole() {
        return wrote(ask().whole(), "whole");
    }

    int more() {
        return wrote(ask().more(), "more");
    }

    /** What was written before is gone, if it was not taken. */
    private int wrote(int answer, String call) {
        boolean takes = steps.stream().anyMatch(step -> step.call.equals("take"));
        if (!takes) {
            steps.removeIf(Step::writes);
            elder.clear();
        }
        outIsLost = false;
        steps.add(new Step(call, null));
        return answer;
    }

    int outs() {
        return askOfOut().outs();
    }

    int out(int i) {
        return askOfOut().out(i);
    }

    int sum() {
        return askOfOut().sum();
    }

    int take() {
        int answer = askOfOut().take();
        if (answer >= 0) {
            steps.add(new Step("take", null));
            tape = null;
        }
        return answer;
    }
}
