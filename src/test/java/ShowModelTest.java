import java.math.BigDecimal;
import java.math.BigInteger;
import java.math.RoundingMode;
import java.util.ArrayList;
import java.util.List;

/** Promises 17 and 18: random contents are shown, and worked out once more by the document's words, with large numbers. */
public final class ShowModelTest {
    private static final int[] WIDTHS = {500, 250, 1000};

    private long random = 77;
    private final StringBuilder contents = new StringBuilder();
    private final List<int[]> glyphs = new ArrayList<>();
    private final List<Object[]> kept = new ArrayList<>();
    private int[] ctm = {65536, 0, 0, 65536, 0, 0};
    private int[] tm = ctm;
    private int[] line = ctm;
    private int size;
    private int tc;
    private int tw;
    private int tl;
    private boolean font;
    private boolean inText;
    private boolean far;

    public static void main(String[] args) {
        int shown = 0;
        int tooFar = 0;
        for (int run = 0; run < 2500; run++) {
            ShowModelTest model = new ShowModelTest();
            model.random = run * 7919L + 3;
            int place = model.make();
            model.compare(Checks.loads("a house", FILE, 1), place);
            shown += model.far ? 0 : 1;
            tooFar += model.far ? 1 : 0;
        }
        System.out.println(shown + " shown, " + tooFar + " too far");
        Checks.due("many are shown, many too far", shown > 300 && tooFar > 300, true);
        Checks.end();
    }

    private static final String FILE = new Files().object(1, Files.CATALOG).object(2, Files.ONE_PAGE)
            .object(3, "<< /Type /Page /Parent 2 0 R /MediaBox [ 0 0 10 20 ] /Resources << /Font << /F 4 0 R >> >> >>")
            .object(4, "<< /Type /Font /FirstChar 65 /LastChar 67 /Widths [ 500 250 1000 ] >>").table("/Root 1 0 R");

    private void compare(House house, int place) {
        Files.contents(house, 0, contents.toString());
        Checks.due(contents + ": show", house.show(0), far ? -114 : glyphs.size());
        Checks.due(contents + ": place", house.fault(3), far ? place : -1);
        for (int i = 0; i < glyphs.size() && !far; i++) {
            for (int what = 0; what < 5; what++) {
                Checks.due(contents + ": glyph " + i + ", " + what, house.glyph(i, what), glyphs.get(i)[what]);
            }
        }
    }

    private int pick(int below) {
        random = random * 6364136223846793005L + 1442695040888963407L;
        return (int) ((random >>> 33) % below);
    }

    /** A number of units: small ones, large ones, halves. */
    private int number() {
        int sign = pick(2) * 2 - 1;
        switch (pick(6)) {
            case 0:
                return sign * pick(4) * 65536;
            case 1:
                return sign * pick(200000);
            case 2:
                return sign * pick(9);
            case 3:
                return sign * (pick(3000) * 32768);
            case 4:
                return pick(3) == 0 ? sign * (2147483647 - pick(70000)) : sign * pick(65536 * 900);
            default:
                return sign * (65536 + pick(3) - 1);
        }
    }

    private int tell(int units) {
        String text = units % 65536 == 0 && pick(2) == 0 ? "" + units / 65536
                : new BigDecimal(units).divide(new BigDecimal(65536)).setScale(9, RoundingMode.HALF_UP).toPlainString();
        contents.append(text).append(' ');
        return units;
    }

    private int[] six() {
        int[] all = new int[6];
        boolean plain = pick(3) > 0;
        for (int i = 0; i < 6; i++) {
            all[i] = tell(plain && i < 4 ? (i % 3 == 0 ? 65536 : 0) : number());
        }
        return all;
    }

    /** Operators until enough are there, or one is too far: its place then, or -1. */
    private int make() {
        int many = 3 + pick(50);
        for (int i = 0; i < many && !far; i++) {
            int before = contents.length();
            if (one(pick(16))) {
                contents.append(' ');
            } else {
                contents.setLength(before);
            }
        }
        int place = contents.toString().trim().lastIndexOf(' ') + 1;
        if (!far) {
            contents.append(inText ? "ET " : "");
            inText = false;
            for (int i = kept.size(); i > 0; i--) {
                contents.append("Q ");
            }
        }
        return place;
    }

    private boolean one(int op) {
        switch (op) {
            case 0:
                return !inText && kept.size() < 20 && keep();
            case 1:
                return !inText && !kept.isEmpty() && bring();
            case 2:
                if (inText) {
                    return false;
                }
                ctm = product(six(), ctm);
                return says("cm");
            case 3:
                tm = new int[] {65536, 0, 0, 65536, 0, 0};
                line = tm;
                boolean wasIn = inText;
                inText = true;
                return !wasIn && says("BT") || wasIn && restart();
            case 4:
                boolean ends = inText;
                inText = false;
                return ends && says("ET");
            case 5:
                contents.append("/F ");
                size = tell(number());
                font = true;
                return says("Tf");
            case 6:
                tc = tell(number());
                return says("Tc");
            case 7:
                tw = tell(number());
                return says("Tw");
            case 8:
                tl = tell(number());
                return says("TL");
            default:
                return inText && inText(op);
        }
    }

    /** BT within BT is none: what it would have done is taken back by a Tm. */
    private boolean restart() {
        contents.append("1 0 0 1 0 0 ");
        return says("Tm");
    }

    private boolean inText(int op) {
        switch (op) {
            case 9:
                next(tell(number()), tell(number()));
                return says("Td");
            case 10:
                int x = tell(number());
                int y = tell(number());
                tl = -y;
                far |= y == Integer.MIN_VALUE;
                next(x, y);
                return says("TD");
            case 11:
                tm = six();
                line = tm;
                return says("Tm");
            case 12:
                far |= tl == Integer.MIN_VALUE;
                next(0, -tl);
                return says("T*");
            case 13:
                return font && string() && says("Tj");
            case 14:
                if (!font) {
                    return false;
                }
                far |= tl == Integer.MIN_VALUE;
                next(0, -tl);
                return string() && says("'");
            default:
                return font && pieces();
        }
    }

    private boolean pieces() {
        contents.append("[ ");
        for (int i = pick(4); i > 0; i--) {
            if (pick(2) == 0) {
                string();
            } else {
                advance(nearest(BigInteger.valueOf(tell(number())).multiply(BigInteger.valueOf(-(long) size)), 65536000));
            }
        }
        contents.append("] ");
        return says("TJ");
    }

    private boolean string() {
        contents.append('(');
        for (int i = pick(4); i > 0; i--) {
            char c = "ABC D".charAt(pick(5));
            contents.append(c);
            if (far) {
                continue;
            }
            int[] at = product(tm, ctm);
            if (!far) {
                glyphs.add(new int[] {c, at[4], at[5], size, 4});
                long width = c >= 'A' && c <= 'C' ? WIDTHS[c - 'A'] * 65536L : 0;
                advance(nearest(BigInteger.valueOf(width).multiply(BigInteger.valueOf(size)), 65536000).add(BigInteger.valueOf(tc))
                        .add(BigInteger.valueOf(c == ' ' ? tw : 0)));
            }
        }
        contents.append(") ");
        return true;
    }

    private boolean says(String op) {
        contents.append(op);
        return true;
    }

    private boolean keep() {
        kept.add(new Object[] {ctm, size, tc, tw, tl, font});
        return says("q");
    }

    private boolean bring() {
        Object[] all = kept.remove(kept.size() - 1);
        ctm = (int[]) all[0];
        size = (int) all[1];
        tc = (int) all[2];
        tw = (int) all[3];
        tl = (int) all[4];
        font = (boolean) all[5];
        return says("Q");
    }

    private void next(int x, int y) {
        line = product(new int[] {65536, 0, 0, 65536, x, y}, line);
        tm = line;
    }

    private void advance(BigInteger t) {
        if (far || !near(t)) {
            far = true;
            return;
        }
        tm = product(new int[] {65536, 0, 0, 65536, t.intValue(), 0}, tm);
    }

    /** A part of a number; of two nearest the greater. */
    private static BigInteger nearest(BigInteger number, long parts) {
        BigDecimal two = new BigDecimal(number.add(number).add(BigInteger.valueOf(parts)));
        return two.divide(new BigDecimal(2 * parts), 0, RoundingMode.FLOOR).toBigInteger();
    }

    private static BigInteger times(int a, int b) {
        return nearest(BigInteger.valueOf(a).multiply(BigInteger.valueOf(b)), 65536);
    }

    private static boolean near(BigInteger number) {
        return number.bitLength() < 32;
    }

    private int[] product(int[] one, int[] other) {
        BigInteger[] all = {
            times(one[0], other[0]).add(times(one[1], other[2])), times(one[0], other[1]).add(times(one[1], other[3])),
            times(one[2], other[0]).add(times(one[3], other[2])), times(one[2], other[1]).add(times(one[3], other[3])),
            times(one[4], other[0]).add(times(one[5], other[2])).add(BigInteger.valueOf(other[4])),
            times(one[4], other[1]).add(times(one[5], other[3])).add(BigInteger.valueOf(other[5]))};
        int[] product = new int[6];
        for (int i = 0; i < 6; i++) {
            far |= !near(all[i]);
            product[i] = all[i].intValue();
        }
        return product;
    }
}
