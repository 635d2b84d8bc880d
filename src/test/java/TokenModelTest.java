import java.math.BigDecimal;
import java.math.RoundingMode;

/** Promises 4, 7 to 11 and 25: random objects in random clothes are read, looked at, and written. */
public final class TokenModelTest {
    private long random;
    private final StringBuilder read = new StringBuilder();
    private final StringBuilder written = new StringBuilder();
    private final StringBuilder seen = new StringBuilder();
    private boolean parted = true;

    public static void main(String[] args) {
        int bytes = 0;
        for (int run = 0; run < 600; run++) {
            TokenModelTest model = new TokenModelTest();
            model.random = run * 15485863L + 7;
            model.compound(0, run % 2 == 0);
            bytes += model.check();
        }
        System.out.println(bytes + " bytes of objects");
        Checks.due("many bytes", bytes > 100000, true);
        Checks.end();
    }

    private int check() {
        if (read.length() > 7000) {
            return 0;
        }
        House x = Checks.loads("random objects", new Files().object(1, "<< /Type /Catalog /V " + read + "\n/Pages 2 0 R >>").object(2, Files.NO_PAGES)
                .table("/Root 1 0 R"), 0);
        x.go(1);
        x.down(1);
        StringBuilder told = new StringBuilder();
        tell(x, told, 0);
        Checks.due("seen of " + read, told.toString(), seen.toString());
        x.whole();
        String head = "%PDF-1.7\n1 0 obj\n<< /Type /Catalog /V " + written + " /Pages 2 0 R >>\nendobj\n";
        Checks.due("written of " + read, Files.out(x).startsWith(head) ? head : Files.out(x), head);
        return read.length();
    }

    /** What can be seen at the cursor and below. */
    private static void tell(House x, StringBuilder into, int depth) {
        int kind = x.here(0);
        into.append(kind).append(':').append(x.here(1)).append(',').append(x.here(3)).append(' ');
        if (kind == 4 || kind == 5) {
            into.append(Files.letters(x, false)).append(' ');
        }
        int parts = kind == 6 || kind == 7 ? x.here(2) : 0;
        for (int i = 0; i < parts; i++) {
            x.down(i);
            if (kind == 7) {
                into.append(Files.letters(x, true)).append('=');
            }
            tell(x, into, depth + 1);
            x.up();
        }
        if (kind == 6 || kind == 7) {
            into.append("end ");
        }
    }

    private int pick(int below) {
        random = random * 6364136223846793005L + 1442695040888963407L;
        return (int) ((random >>> 33) % below);
    }

    private void white() {
        String[] all = {" ", "\n", "\r", "\r\n", "\t", "\f", "\0", "  ", "%\n", "%)>>\r", " %(\n", "\n% /A [ \r\n"};
        read.append(all[pick(all.length)]);
        parted = true;
    }

    /** A token that begins with a delimiter, or a row that must be parted from one ahead of it. */
    private void token(String text, boolean isRow) {
        if (isRow && !parted || pick(3) == 0) {
            white();
        }
        read.append(text);
        parted = !isRow;
    }

    private void object(int depth) {
        switch (pick(depth < 5 ? 11 : 8)) {
            case 0:
                token("null", true);
                leaf(0, 0, 0, "null");
                break;
            case 1:
                boolean truth = pick(2) == 0;
                token(truth ? "true" : "false", true);
                leaf(1, truth ? 1 : 0, 0, truth ? "true" : "false");
                break;
            case 2:
                whole();
                break;
            case 3:
                real();
                break;
            case 4:
                byte[] name = name();
                seen.append("4:0,0 ").append(Files.text(name)).append(' ');
                break;
            case 5:
            case 6:
                string();
                break;
            case 7:
                int n = 1 + pick(199);
                int generation = pick(3) * pick(30000);
                token("0".repeat(pick(3)) + n, true);
                token("0".repeat(pick(2)) + generation, true);
                token("R", true);
                leaf(8, n, generation, n <= 2 && generation == 0 ? n + " 0 R" : "null");
                break;
            default:
                compound(depth, pick(2) == 0);
        }
    }

    private void leaf(int kind, int value, int generation, String text) {
        seen.append(kind).append(':').append(value).append(',').append(generation).append(' ');
        written.append(text);
    }

    private void whole() {
        int value = pick(4) == 0 ? (pick(2) == 0 ? Integer.MAX_VALUE - pick(3) : Integer.MIN_VALUE + pick(3)) : pick(2000) - 1000;
        String digits = "0".repeat(pick(4)) + Math.abs((long) value);
        token((value < 0 ? "-" : pick(4) == 0 ? "+" : "") + digits, true);
        leaf(2, value, 0, "" + value);
        // Another number behind it would be taken for a reference if an R came then: none does.
    }

    private void real() {
        int units = pick(3) == 0 ? pick(2) * 2147483647 * (pick(2) * 2 - 1) : (pick(2) * 2 - 1) * pick(65536 * (1 + pick(300)));
        BigDecimal exact = new BigDecimal(units).divide(new BigDecimal(65536));
        String text = exact.abs().setScale(9 - pick(2), RoundingMode.HALF_UP).toPlainString();
        if (text.startsWith("0.") && pick(2) == 0) {
            text = text.substring(1);
        }
        while (text.endsWith("0") && pick(4) > 0) {
            text = text.substring(0, text.length() - 1);
        }
        if (text.equals(".")) {
            text = "0.";
        }
        token((units < 0 ? "-" : pick(4) == 0 ? "+" : "") + text, true);
        String five = exact.abs().setScale(5, RoundingMode.HALF_UP).toPlainString();
        while (five.endsWith("0") && !five.endsWith(".0")) {
            five = five.substring(0, five.length() - 1);
        }
        leaf(3, units, 0, (units < 0 ? "-" : "") + five);
    }

    private byte[] name() {
        int many = pick(8) == 0 ? 60 : pick(9);
        StringBuilder text = new StringBuilder("/");
        written.append('/');
        byte[] bytes = new byte[many];
        for (int i = 0; i < many; i++) {
            int c = pick(3) == 0 ? 1 + pick(255) : 'a' + pick(26);
            boolean regular = "\0\t\n\f\r ()<>[]{}/%#".indexOf(c) < 0;
            bytes[i] = (byte) c;
            text.append(regular && pick(4) > 0 ? "" + (char) c : String.format(pick(2) == 0 ? "#%02x" : "#%02X", c));
            written.append(c >= 33 && c <= 126 && regular ? "" + (char) c : String.format("#%02X", c));
        }
        token(text.toString(), false);
        parted = false;
        return bytes;
    }

    private void string() {
        int many = pick(12);
        StringBuilder bytes = new StringBuilder();
        for (int i = 0; i < many; i++) {
            bytes.append((char) (pick(3) == 0 ? pick(256) : 32 + pick(95)));
        }
        token(pick(3) == 0 ? hex(bytes.toString()) : round(bytes.toString()), false);
        seen.append("5:0,0 ").append(bytes).append(' ');
        boolean plain = bytes.chars().allMatch(c -> c >= 32 && c <= 126 && c != '(' && c != ')' && c != '\\');
        String digits = Files.hex(bytes.toString());
        written.append(plain ? "(" + bytes + ")" : "<" + digits);
    }

    private String hex(String bytes) {
        StringBuilder text = new StringBuilder("<");
        for (int i = 0; i < bytes.length(); i++) {
            String digits = String.format(pick(2) == 0 ? "%02x" : "%02X", (int) bytes.charAt(i));
            boolean last = i == bytes.length() - 1 && digits.endsWith("0");
            text.append(digits.charAt(0)).append(pick(5) == 0 ? " \n" : "").append(last ? "" : digits.charAt(1)).append(pick(5) == 0 ? "\t\0\f\r" : "");
        }
        return text + ">";
    }

    private String round(String bytes) {
        StringBuilder text = new StringBuilder("(");
        for (int i = 0; i < bytes.length(); i++) {
            char c = bytes.charAt(i);
            int known = "\n\r\t\b\f()\\".indexOf(c);
            boolean digitBehind = i + 1 < bytes.length() && bytes.charAt(i + 1) >= '0' && bytes.charAt(i + 1) <= '7';
            int way = pick(6);
            if (known >= 0 && way < 3) {
                text.append('\\').append("nrtbf()\\".charAt(known));
            } else if (way < 2 || c == 13 || c == '(' || c == ')' || c == '\\') {
                text.append(digitBehind || pick(2) == 0 ? String.format("\\%03o", (int) c) : "\\" + Integer.toOctalString(c));
            } else if (c == 10 && way == 4) {
                text.append(pick(2) == 0 ? "\r" : "\r\n");
            } else if (way == 5 && "nrtbf01234567\n\r".indexOf(c) < 0) {
                text.append('\\').append(c);
            } else {
                text.append(c);
            }
            // A line end behind a \ is nothing; what follows must not complete it.
            if (pick(9) == 0 && (i + 1 >= bytes.length() || bytes.charAt(i + 1) != 10)) {
                text.append(new String[] {"\\\n", "\\\r\n"}[pick(2)]);
            }
        }
        return text + ")";
    }

    private void compound(int depth, boolean isDict) {
        token(isDict ? "<<" : "[", false);
        parted = true;
        written.append(isDict ? "<< " : "[ ");
        seen.append(isDict ? 7 : 6).append(":0,0 ");
        for (int i = depth == 0 ? 10 + pick(20) : pick(5); i > 0; i--) {
            if (isDict) {
                String key = "k" + i;
                token("/" + key, false);
                parted = false;
                written.append('/').append(key).append(' ');
                seen.append(key).append('=');
            }
            int from = read.length();
            object(depth + 1);
            written.append(' ');
            // Two wholes and an R are a reference; here wholes stay apart from what comes by a null.
            if (!isDict && read.substring(from).matches("(?s).*[0-9+.-]$")) {
                token("null", true);
                leaf(0, 0, 0, "null");
                written.append(' ');
            }
        }
        token(isDict ? ">>" : "]", false);
        parted = true;
        written.append(isDict ? ">>" : "]");
        seen.append("end ");
    }
}
