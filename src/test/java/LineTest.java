/** Promises 9 to 14: what comes on the line. The line is read off by what is delivered. */
public final class LineTest {
    public static void main(String[] args) {
        putting();
        puttingWrongBytes();
        puttingInts();
        poking();
        framing();
        framesAreKnownByEveryByte();
        framingWrongly();
        asking();
        askingWrongly();
        clearing();
        Check.end();
    }

    private static void fill(LoadProfileMeter m, int number) {
        for (int i = 0; i < number; i++) {
            m.put(7);
        }
    }

    private static void putting() {
        LoadProfileMeter m = new LoadProfileMeter(1, 1);
        for (int i = 1; i <= 80; i++) {
            Check.due("put to " + i, m.put(i % 2 == 0 ? 0 : 255), i);
        }
        Check.refused("put of the 81st", IllegalStateException.class, () -> m.put(0));
        Check.refused("put of a wrong 81st", IllegalArgumentException.class, () -> m.put(256));
        m.clear();
        Check.due("put after clear()", m.put(0), 1);
    }

    private static void puttingWrongBytes() {
        LoadProfileMeter m = new LoadProfileMeter(1, 1);
        for (int b : new int[] {-1, 256, Integer.MIN_VALUE, Integer.MAX_VALUE}) {
            Check.refused("put(" + b + ")", IllegalArgumentException.class, () -> m.put(b));
        }
        Check.due("put(255) after refused ones", m.put(255), 1);
    }

    private static void puttingInts() {
        LoadProfileMeter m = new LoadProfileMeter(1, 1);
        for (int i = 4; i <= 76; i += 4) {
            Check.due("putInt to " + i, m.putInt(i), i);
        }
        m.put(0);
        Check.refused("putInt behind 77", IllegalStateException.class, () -> m.putInt(0));
        Check.due("nothing came of it", m.put(0), 78);
        Check.refused("putInt behind 78", IllegalStateException.class, () -> m.putInt(0));
        m.put(0);
        Check.refused("putInt behind 79", IllegalStateException.class, () -> m.putInt(0));
        m.put(0);
        Check.refused("putInt behind 80", IllegalStateException.class, () -> m.putInt(0));
        m.clear();
        fill(m, 76);
        Check.due("putInt behind 76", m.putInt(0), 80);
        highestByteComesFirst();
    }

    private static void highestByteComesFirst() {
        Client c = Client.manager(1);
        c.put(193, 1, 2, 5);
        c.meter.putInt(0x81020384);
        c.meter.ask();
        c.deliver();
        Check.due("register from putInt", c.meter.register(1), 0x81020384);
        c.set(1, 2, new int[] {5, 0x81, 2, 3, 0x84});
        Check.due("register from bytes", c.meter.register(1), 0x81020384);
    }

    private static void poking() {
        LoadProfileMeter m = new LoadProfileMeter(1, 1);
        Check.refused("poke(0, 0) of an empty line", IndexOutOfBoundsException.class, () -> poke(m, 0, 0));
        Check.refused("poke(0, 256) of an empty line", IndexOutOfBoundsException.class, () -> poke(m, 0, 256));
        m.frame(147);
        Check.refused("poke(-1, 0)", IndexOutOfBoundsException.class, () -> poke(m, -1, 0));
        Check.refused("poke(7, 0)", IndexOutOfBoundsException.class, () -> poke(m, 7, 0));
        Check.refused("poke(7, -1)", IndexOutOfBoundsException.class, () -> poke(m, 7, -1));
        Check.refused("poke(6, -1)", IllegalArgumentException.class, () -> poke(m, 6, -1));
        Check.refused("poke(0, 256)", IllegalArgumentException.class, () -> poke(m, 0, 256));
        m.poke(0, 255);
        m.poke(6, 0);
        m.poke(6, 126);
        m.poke(0, 126);
        Check.due("a frame after all pokes", m.deliver(false), 7);
        m.put(0);
        m.poke(0, 255);
        Check.due("a poke makes the line no longer", m.put(0), 2);
    }

    private static int poke(LoadProfileMeter m, int i, int b) {
        m.poke(i, b);
        return 0;
    }

    private static void framing() {
        LoadProfileMeter m = new LoadProfileMeter(1, 1);
        Check.due("frame(147) of an empty line", m.frame(147), 7);
        Check.due("frame of a frame", m.frame(0), 16);
        m.clear();
        fill(m, 60);
        Check.due("frame of 60", m.frame(255), 69);
        framesWithWrittenBytes();
        for (int size = 1; size <= 60; size++) {
            Client c = Client.connected(1);
            int[] payload = new int[size];
            java.util.Arrays.fill(payload, 126);
            Check.due("answer to " + size + " bytes", c.ask(payload), 216, 2);
        }
    }

    /** These bytes were worked out outside the program. */
    private static void framesWithWrittenBytes() {
        Client c = new Client(1);
        c.put(126, 5, 17, 147, 42, 213, 126);
        Check.due("reply to a written frame", c.deliver(), 126, 5, 17, 115, 36, 50, 126);
        c.put(126, 8, 17, 16, 198, 156, 98, 216, 134, 126);
        Check.due("reply to a written payload", c.deliver(), 126, 8, 17, 48, 196, 189, 99, 81, 151, 126);
    }

    private static void framesAreKnownByEveryByte() {
        for (int size = 0; size <= 3; size++) {
            int length = size == 0 ? 7 : 9 + size;
            for (int i = 0; i < length; i++) {
                for (int bit = 0; bit < 8; bit++) {
                    Client c = new Client(1);
                    fill(c.meter, size);
                    c.meter.frame(size == 0 ? 147 : 16);
                    int[] frame = bytesOf(size);
                    c.meter.poke(i, frame[i] ^ 1 << bit);
                    Check.due("deliver with byte " + i + " spoilt of " + size, c.meter.deliver(false), 0);
                    Check.due("link() then", c.meter.link(), 0);
                }
            }
        }
        framesOfOtherLengths();
    }

    private static int[] bytesOf(int size) {
        int[] payload = new int[size];
        java.util.Arrays.fill(payload, 7);
        return Bytes.frame(size == 0 ? 147 : 16, payload);
    }

    private static void framesOfOtherLengths() {
        Client c = Client.connected(1);
        int[] longest = new int[61];
        c.put(Bytes.frame(16, longest));
        Check.due("a frame with 61 bytes", c.meter.deliver(false), 0);
        c.put(Bytes.frame(16, new int[60]));
        Check.due("a frame with 60 bytes", c.meter.deliver(false), 11);
        c.put(Bytes.frameWithEmptyPayload(147));
        Check.due("a frame with a second check alone", c.meter.deliver(false), 0);
        c.put(Bytes.frame(147));
        c.put(126);
        Check.due("a frame with a byte behind it", c.meter.deliver(false), 0);
        c.put(126);
        c.put(Bytes.frame(147));
        Check.due("a frame with a byte ahead", c.meter.deliver(false), 0);
        for (int size = 0; size < 7; size++) {
            c.put(java.util.Arrays.copyOf(Bytes.frame(147), size));
            Check.due("the first " + size + " of a frame", c.meter.deliver(false), 0);
        }
    }

    private static void framingWrongly() {
        LoadProfileMeter m = new LoadProfileMeter(1, 1);
        for (int control : new int[] {-1, 256, Integer.MIN_VALUE, Integer.MAX_VALUE}) {
            Check.refused("frame(" + control + ")", IllegalArgumentException.class, () -> m.frame(control));
        }
        fill(m, 61);
        Check.refused("frame of 61", IllegalStateException.class, () -> m.frame(0));
        Check.refused("wrong frame of 61", IllegalArgumentException.class, () -> m.frame(256));
        Check.due("the line is as it was", m.put(0), 62);
    }

    private static void asking() {
        Client c = Client.connected(1);
        c.put(98);
        Check.due("ask() of one byte", c.meter.ask(), 10);
        Check.due("reply to S 0, R 0", Client.controlOf(c.deliver()), 16 + 32);
        for (int i = 1; i < 20; i++) {
            c.put(98);
            c.meter.ask();
            int[] reply = c.deliver();
            Check.due("reply to S, R " + i, Client.controlOf(reply), 16 + 2 * (i % 8) + 32 * ((i + 1) % 8));
        }
        fill(c.meter, 60);
        Check.due("ask() of 60", c.meter.ask(), 69);
    }

    private static void askingWrongly() {
        LoadProfileMeter m = new LoadProfileMeter(1, 1);
        Check.refused("ask() of an empty line", IllegalStateException.class, m::ask);
        Check.due("the line is empty still", m.put(7), 1);
        fill(m, 60);
        Check.refused("ask() of 61", IllegalStateException.class, m::ask);
        Check.due("the line has 61 still", m.put(7), 62);
    }

    private static void clearing() {
        LoadProfileMeter m = new LoadProfileMeter(1, 1);
        m.clear();
        fill(m, 80);
        m.clear();
        Check.due("put after clear()", m.put(1), 1);
        m.clear();
        m.frame(147);
        m.deliver(false);
        m.put(3);
        m.clear();
        Check.due("clear() leaves the reply", m.reply(3), 115);
        Check.refused("nothing is there to ask", IllegalStateException.class, m::ask);
    }
}
