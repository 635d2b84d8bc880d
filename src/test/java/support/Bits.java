import java.util.zip.Adler32;

/** Bits of a deflate code, put together by hand. */
final class Bits {
    private final StringBuilder bytes = new StringBuilder();
    private int held;
    private int many;

    /** So many bits, the lowest first. */
    Bits add(int value, int bits) {
        for (int i = 0; i < bits; i++) {
            held |= (value >> i & 1) << many;
            many++;
            if (many == 8) {
                bytes.append((char) held);
                held = 0;
                many = 0;
            }
        }
        return this;
    }

    /** A code, the highest bit first. */
    Bits code(int value, int bits) {
        for (int i = bits - 1; i >= 0; i--) {
            add(value >> i & 1, 1);
        }
        return this;
    }

    Bits align() {
        return many == 0 ? this : add(0, 8 - many);
    }

    /** The whole stream, with the sum of what it should decode to. */
    String zlib(String decoded) {
        align();
        Adler32 adler = new Adler32();
        adler.update(Files.bytes(decoded));
        int sum = (int) adler.getValue();
        return "x\u009c" + bytes + (char) (sum >>> 24) + (char) (sum >> 16 & 255) + (char) (sum >> 8 & 255) + (char) (sum & 255);
    }

    /** The code by the document's words alone: at each place all distances are tried. */
    static String plainCode(String text) {
        Bits bits = new Bits().add(1, 1).add(1, 2);
        int[] bases = {3, 4, 5, 6, 7, 8, 9, 10, 11, 13, 15, 17, 19, 23, 27, 31, 35, 43, 51, 59, 67, 83, 99, 115, 131, 163, 195, 227, 258};
        int at = 0;
        while (at < text.length()) {
            int best = 0;
            int far = 0;
            for (int distance = 1; distance <= 2000 && distance <= at; distance++) {
                int same = 0;
                while (same < 258 && at + same < text.length() && text.charAt(at + same) == text.charAt(at + same - distance)) {
                    same++;
                }
                if (same > best) {
                    best = same;
                    far = distance;
                }
            }
            if (best < 3) {
                int c = text.charAt(at);
                bits.code(c < 144 ? 48 + c : 256 + c, c < 144 ? 8 : 9);
                at++;
                continue;
            }
            int kind = 28;
            while (bases[kind] > best) {
                kind--;
            }
            bits.code(kind < 23 ? 1 + kind : 192 + kind - 23, kind < 23 ? 7 : 8);
            bits.add(best - bases[kind], kind < 8 || kind == 28 ? 0 : kind / 4 - 1);
            int farKind = 0;
            int base = 1;
            int more = 0;
            while (far >= base + (1 << more)) {
                base += 1 << more;
                farKind++;
                more = Math.max(0, farKind / 2 - 1);
            }
            bits.code(farKind, 5).add(far - base, more);
            at += best;
        }
        return bits.code(0, 7).zlib(text);
    }
}
