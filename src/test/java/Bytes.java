/** Frames as the document writes them, made apart from the program. */
final class Bytes {
    private static final int[] TABLE = table();

    private Bytes() {
    }

    private static int[] table() {
        int[] table = new int[256];
        for (int b = 0; b < 256; b++) {
            int c = b;
            for (int bit = 0; bit < 8; bit++) {
                c = c % 2 == 1 ? c / 2 ^ 33800 : c / 2;
            }
            table[b] = c;
        }
        return table;
    }

    /** Of the bytes with the numbers from .. to - 1. */
    static int check(int[] bytes, int from, int to) {
        int c = 65535;
        for (int i = from; i < to; i++) {
            c = c >> 8 ^ TABLE[(c ^ bytes[i]) & 255];
        }
        return 65535 - c;
    }

    static int[] frame(int control, int... payload) {
        return payload.length == 0 ? bare(control) : framed(control, payload);
    }

    private static int[] bare(int control) {
        int[] frame = {126, 5, 17, control, 0, 0, 126};
        putCheck(frame, 4);
        return frame;
    }

    private static int[] framed(int control, int[] payload) {
        int[] frame = new int[payload.length + 9];
        frame[0] = 126;
        frame[1] = payload.length + 7;
        frame[2] = 17;
        frame[3] = control;
        putCheck(frame, 4);
        System.arraycopy(payload, 0, frame, 6, payload.length);
        putCheck(frame, payload.length + 6);
        frame[payload.length + 8] = 126;
        return frame;
    }

    /** What is no frame, though both its checks hold. */
    static int[] frameWithEmptyPayload(int control) {
        return framed(control, new int[0]);
    }

    private static void putCheck(int[] frame, int at) {
        int check = check(frame, 1, at);
        frame[at] = check % 256;
        frame[at + 1] = check / 256;
    }
}
