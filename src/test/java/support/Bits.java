import java.util.zip.Adler32;

/** Bits of a deflate code, put together by hand. */
final class Bits {
    private final StringBuilder bytes = new StringBuilder();
    private int held;
    private int many;

    /** So many bits, the lowest first. */
    Bits add(int value, int bits) {
        for (int i = 0; i < bits; i++) {
            held |= (value >> i & 1) << many;
            many++;
            if (many == 8) {
                bytes.append((char) held);
                held = 0;
                many = 0;
            }
        }
        return this;
    }

    /** A code, the highest bit first. */
    Bits code(int value, int bits) {
        for (int i = bits - 1; i >= 0; i--) {
            add(value >> i & 1, 1);
        }
        return this;
    }

    Bits align() {
        return many == 0 ? this : add(0, 8 - many);
    }

    /** The whole stream, with the sum of what it should decode to. */
    String zlib(String decoded) {
        align();
        Adler32 adler = new Adler32();
        adler.update(Files.bytes(decoded));
        int sum = (int) adler.getValue();
        return "x\u009c" + bytes + (char) (sum >>> 24) + (char) (sum >> 16 & 255) + (char) (sum >> 8 & 255) + (char) (sum & 255);
    }
}
