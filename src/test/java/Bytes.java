/** Bytes as the document writes them, made apart from the program. */
final class Bytes {
    private static final int[] TABLE = table();

    private Bytes() {
    }

    private static int[] table() {
        int[] table = new int[256];
        for (int b = 0; b < 256; b++) {
            int c = b;
            for (int bit = 0; bit < 8; bit++) {
                c = c % 2 == 1 ? c / 2 ^ 33800 : c / 2;
            }
            table[b] = c;
        }
        return table;
    }

    /** Of the bytes with the numbers from .. to - 1. */
    static int check(int[] bytes, int from, int to) {
        int c = 65535;
        for (int i = from; i < to; i++) {
            c = c >> 8 ^ TABLE[(c ^ bytes[i]) & 255];
        }
        return 65535 - c;
    }

    static int[] frame(int control, int... payload) {
        return payload.length == 0 ? bare(5, 17, control) : full(payload.length + 7, 17, control, payload);
    }

    /** With any n and address, and a check that holds. */
    static int[] bare(int n, int address, int control) {
        int[] frame = {126, n, address, control, 0, 0, 126};
        putCheck(frame, 4);
        return frame;
    }

    /** With any n, address and payload (also none, also too long), and both checks hold. */
    static int[] full(int n, int address, int control, int... payload) {
        int[] frame = new int[payload.length + 9];
        frame[0] = 126;
        frame[1] = n;
        frame[2] = address;
        frame[3] = control;
        putCheck(frame, 4);
        System.arraycopy(payload, 0, frame, 6, payload.length);
        putCheck(frame, payload.length + 6);
        frame[payload.length + 8] = 126;
        return frame;
    }

    /** Two bytes become the check of those between the first one and them. */
    static void putCheck(int[] frame, int at) {
        int check = check(frame, 1, at);
        frame[at] = check % 256;
        frame[at + 1] = check / 256;
    }

    static int[] repeated(int b, int times) {
        int[] bytes = new int[times];
        java.util.Arrays.fill(bytes, b);
        return bytes;
    }

    static int[] joined(int[]... parts) {
        return java.util.Arrays.stream(parts).flatMapToInt(java.util.Arrays::stream).toArray();
    }

    /** A tag and the four bytes of a number. */
    static int[] tagged(int tag, int v) {
        return new int[] {tag, v >>> 24, v >>> 16 & 255, v >>> 8 & 255, v & 255};
    }

    /** The value of the profile's attribute 3. */
    static int[] columns(int... registers) {
        int[] value = {1, registers.length};
        for (int o : registers) {
            value = joined(value, new int[] {17, o});
        }
        return value;
    }

    /** The answer to getting a value of at most 40 bytes. */
    static int[] got(int... value) {
        return joined(new int[] {196, 1, 0}, value);
    }
}
