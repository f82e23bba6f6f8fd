import java.util.Arrays;

/** What a frame is, and that the meter looks at nothing else: a method for each sentence of the terms. */
public final class FramesTest {
    public static void main(String[] args) {
        theCheck();
        theCheckOfManyBytes();
        framesWithWrittenBytes();
        theLowerByteOfACheckIsFirst();
        theFirstFlag();
        theLastFlag();
        theNumberOfBytes();
        theAddress();
        theCheckOfTheHead();
        theCheckOfAll();
        everyBitCounts();
        payloadsOf1To60();
        whatIsAddedOrMissing();
        controlsOfInformation();
        Check.end();
    }

    /** A meter that is at step 1, so that all that it could do of a request shows. */
    private static void noFrame(String what, int... bytes) {
        Client c = Client.atStep(1);
        c.put(bytes);
        Check.due("deliver of " + what, c.meter.deliver(false), 0);
        Check.refused("reply(0) to " + what, IndexOutOfBoundsException.class, () -> c.meter.reply(0));
        Check.due("link() after " + what, c.meter.link(), 1 + 16 + 128);
        Check.due("put after " + what, c.meter.put(98), 1);
        Check.due("the request after " + what, c.askForLine(), 99);
    }

    private static void frame(String what, int[] want, int... bytes) {
        Client c = Client.atStep(1);
        c.put(bytes);
        Check.due("reply to " + what, c.deliver(), want);
    }

    private static int[] changed(int[] bytes, int i, int b) {
        int[] changed = bytes.clone();
        changed[i] = b;
        return changed;
    }

    private static void theCheck() {
        Check.sentence("Terms", "the check is 65535 - c, in two bytes, the LOWER one first");
        int[] digits = "123456789".chars().toArray();
        Check.due("what this check is known to be of the nine digits", Bytes.check(digits, 0, 9), 0x906E);
        Check.due("of no bytes", Bytes.check(digits, 0, 0), 0);
    }

    private static void theCheckOfManyBytes() {
        Check.sentence("Terms", "THE CHECK of some bytes: c is 65535 at first; for each byte, c becomes c xor the byte, and then eight times c / 2 (rounded down), xor 33800 if c was odd");
        for (int b = 0; b < 256; b++) {
            int refusal = b == 192 || b == 193 || b == 195 ? 1 : 2;
            frame("60 bytes " + b, Bytes.frame(82, 216, refusal), Bytes.frame(50, Bytes.repeated(b, 60)));
        }
    }

    private static void framesWithWrittenBytes() {
        Check.sentence("Terms", "126; n, the number of bytes between the first 126 and the last one; 17; the CONTROL c; the check of n, 17 and c");
        Client c = new Client(1);
        // These bytes were worked out outside the program.
        c.put(126, 5, 17, 147, 42, 213, 126);
        Check.due("reply to a written frame", c.deliver(), 126, 5, 17, 115, 36, 50, 126);
        c.put(126, 8, 17, 16, 198, 156, 98, 216, 134, 126);
        Check.due("reply to a written payload", c.deliver(), 126, 8, 17, 48, 196, 189, 99, 81, 151, 126);
    }

    private static void theLowerByteOfACheckIsFirst() {
        Check.sentence("Terms", "in two bytes, the LOWER one first");
        noFrame("a bare frame with its check turned round", 126, 5, 17, 147, 213, 42, 126);
        int[] headTurned = Bytes.frame(50, 98);
        headTurned[4] = Bytes.frame(50, 98)[5];
        headTurned[5] = Bytes.frame(50, 98)[4];
        Bytes.putCheck(headTurned, 7);
        noFrame("a frame with the head's check turned round", headTurned);
        int[] turned = Bytes.frame(50, 98);
        turned[7] = Bytes.frame(50, 98)[8];
        turned[8] = Bytes.frame(50, 98)[7];
        noFrame("a frame with its last check turned round", turned);
    }

    private static void theFirstFlag() {
        Check.sentence("Terms", "A FRAME is a row of bytes: 126");
        for (int b : new int[] {0, 125, 127, 255}) {
            noFrame("a bare frame that begins with " + b, changed(Bytes.frame(147), 0, b));
            noFrame("a frame that begins with " + b, changed(Bytes.frame(50, 98), 0, b));
        }
        frame("a payload of 126", Bytes.frame(82, 216, 2), Bytes.frame(50, 126, 126, 126));
    }

    private static void theLastFlag() {
        Check.sentence("Terms", "then, if it has a PAYLOAD (1 .. 60 bytes), that and the check of all from n on; 126");
        for (int b : new int[] {0, 125, 127, 255}) {
            noFrame("a bare frame that ends with " + b, changed(Bytes.frame(147), 6, b));
            noFrame("a frame that ends with " + b, changed(Bytes.frame(50, 98), 9, b));
        }
        frame("a frame that ends with 126", Bytes.frame(82, 99), changed(Bytes.frame(50, 98), 9, 126));
    }

    private static void theNumberOfBytes() {
        Check.sentence("Terms", "n, the number of bytes between the first 126 and the last one");
        for (int n : new int[] {0, 4, 6, 7, 255}) {
            noFrame("a bare frame with n " + n, Bytes.bare(n, 17, 147));
        }
        for (int n : new int[] {0, 5, 7, 9, 10, 255}) {
            noFrame("a frame of one byte with n " + n, Bytes.full(n, 17, 50, 98));
        }
        frame("a frame of one byte with n 8", Bytes.frame(82, 99), Bytes.full(8, 17, 50, 98));
        frame("a bare frame with n 5", Bytes.frame(115), Bytes.bare(5, 17, 147));
        noFrame("60 bytes with n 66", Bytes.full(66, 17, 50, new int[60]));
        frame("60 bytes with n 67", Bytes.frame(82, 216, 2), Bytes.full(67, 17, 50, new int[60]));
        noFrame("60 bytes with n 68", Bytes.full(68, 17, 50, new int[60]));
    }

    private static void theAddress() {
        Check.sentence("Terms", "the number of bytes between the first 126 and the last one; 17");
        for (int address : new int[] {0, 16, 18, 19, 255}) {
            noFrame("a bare frame for " + address, Bytes.bare(5, address, 147));
            noFrame("a frame for " + address, Bytes.full(8, address, 50, 98));
        }
        frame("a bare frame for 17", Bytes.frame(115), Bytes.bare(5, 17, 147));
        frame("a frame for 17", Bytes.frame(82, 99), Bytes.full(8, 17, 50, 98));
    }

    private static void theCheckOfTheHead() {
        Check.sentence("Terms", "the check of n, 17 and c");
        for (int i = 4; i <= 5; i++) {
            for (int bit = 0; bit < 8; bit++) {
                int[] frame = Bytes.frame(50, 98);
                frame[i] ^= 1 << bit;
                Bytes.putCheck(frame, 7);
                noFrame("a frame whose last check alone holds", frame);
                int[] bare = Bytes.frame(147);
                bare[i] ^= 1 << bit;
                noFrame("a bare frame whose check does not hold", bare);
            }
        }
    }

    private static void theCheckOfAll() {
        Check.sentence("Terms", "that and the check of all from n on");
        for (int i = 6; i <= 8; i++) {
            for (int bit = 0; bit < 8; bit++) {
                int[] frame = Bytes.frame(50, 98);
                frame[i] ^= 1 << bit;
                noFrame("a frame whose last check does not hold", frame);
            }
        }
        int[] ofThePayload = Bytes.frame(50, 98);
        int check = Bytes.check(ofThePayload, 6, 7);
        noFrame("a frame with the check of its payload alone",
            changed(changed(ofThePayload, 7, check % 256), 8, check / 256));
        int withFlag = Bytes.check(ofThePayload, 0, 7);
        noFrame("a frame with the check of all from 126 on",
            changed(changed(ofThePayload, 7, withFlag % 256), 8, withFlag / 256));
    }

    private static void everyBitCounts() {
        Check.sentence("Terms", "The meter looks at nothing that is no frame");
        int[][] frames = {Bytes.frame(147), Bytes.frame(83), Bytes.frame(50, 98), Bytes.frame(50, 96, 1, 0, 0, 0, 0)};
        for (int[] frame : frames) {
            for (int i = 0; i < frame.length; i++) {
                for (int bit = 0; bit < 8; bit++) {
                    noFrame("a frame with bit " + bit + " of byte " + i + " spoilt", changed(frame, i, frame[i] ^ 1 << bit));
                }
            }
        }
        noFrame("an empty line");
        noFrame("126 alone", 126);
        noFrame("80 bytes 126", Bytes.repeated(126, 80));
        noFrame("80 bytes 0", new int[80]);
    }

    private static void payloadsOf1To60() {
        Check.sentence("Terms", "if it has a PAYLOAD (1 .. 60 bytes)");
        noFrame("a payload of 0 bytes with a check", Bytes.full(7, 17, 50));
        noFrame("147 with a payload of 0 bytes with a check", Bytes.full(7, 17, 147));
        frame("a payload of 1 byte", Bytes.frame(82, 216, 2), Bytes.frame(50, 7));
        frame("a payload of 59 bytes", Bytes.frame(82, 216, 2), Bytes.frame(50, new int[59]));
        frame("a payload of 60 bytes", Bytes.frame(82, 216, 2), Bytes.frame(50, new int[60]));
        for (int size = 61; size <= 71; size++) {
            noFrame("a payload of " + size + " bytes", Bytes.frame(50, new int[size]));
        }
        // Between a frame without a payload and one of a byte there is none.
        int[] eight = {126, 6, 17, 147, 0, 0, 0, 126};
        Bytes.putCheck(eight, 4);
        noFrame("eight bytes", eight);
    }

    private static void whatIsAddedOrMissing() {
        Check.sentence("Terms", "DELIVERING the line makes it empty, after the meter has looked at it");
        for (int[] frame : new int[][] {Bytes.frame(147), Bytes.frame(50, 98)}) {
            noFrame("a frame and 126", Bytes.joined(frame, new int[] {126}));
            noFrame("126 and a frame", Bytes.joined(new int[] {126}, frame));
            noFrame("a frame and 0", Bytes.joined(frame, new int[] {0}));
            noFrame("two frames", Bytes.joined(frame, frame));
            for (int size = 0; size < frame.length; size++) {
                noFrame("the first " + size + " bytes of a frame", Arrays.copyOf(frame, size));
                noFrame("a frame without its first bytes", Arrays.copyOfRange(frame, frame.length - size, frame.length));
            }
        }
    }

    private static void controlsOfInformation() {
        Check.sentence("Terms", "An INFORMATION frame of s and r (0 .. 7) has the control 16 + 2 s + 32 r");
        int found = 0;
        for (int control = 0; control < 256; control++) {
            Client c = new Client(1);
            boolean information = c.controlFor(control, 98) == 31;
            boolean due = control % 2 == 0 && control / 16 % 2 == 1;
            Check.due("control " + control, information ? 1 : 0, due ? 1 : 0);
            found += information ? 1 : 0;
        }
        Check.due("how many there are", found, 64);
    }
}
