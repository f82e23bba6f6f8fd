/** Promises 9 to 14 and the terms of the line: a method for each sentence. */
public final class LineTest {
    private static final int MAX = Integer.MAX_VALUE;
    private static final int MIN = Integer.MIN_VALUE;
    private static final int[] NO_BYTES = {-1, 256, -128, 257, MIN, MAX};

    public static void main(String[] args) {
        bytesAre0To255();
        atMost80Bytes();
        bothAreEmptyAtFirst();
        putBehindTheLine();
        putOfNoByte();
        putWhenThereAre80();
        putIntBehindTheLine();
        putIntHasTheHighestByteFirst();
        putIntBeyond80();
        pokeOfAByte();
        pokeWhereThereIsNone();
        pokeOfNoByte();
        frameOfThePayload();
        frameOfAnEmptyLine();
        frameOfNoControl();
        frameOfMoreThan60();
        askByTheNumbers();
        askOfAnEmptyLine();
        askOfMoreThan60();
        clearing();
        Check.end();
    }

    private static CountedMeter newMeter() {
        return new CountedMeter(1, 1);
    }

    private static void fill(CountedMeter m, int number) {
        for (int i = 0; i < number; i++) {
            m.put(7);
        }
    }

    private static int poke(CountedMeter m, int i, int b) {
        m.poke(i, b);
        return 0;
    }

    private static void bytesAre0To255() {
        Check.sentence("Terms", "BYTES are 0 .. 255");
        CountedMeter m = newMeter();
        for (int b = 0; b <= 255; b++) {
            if (b % 80 == 0) {
                m.clear();
            }
            Check.due("put(" + b + ")", m.put(b), b % 80 + 1);
        }
        Check.refused("put(-1)", IllegalArgumentException.class, () -> m.put(-1));
        Check.refused("put(256)", IllegalArgumentException.class, () -> m.put(256));
        CountedMeter poked = newMeter();
        poked.put(0);
        for (int b = 0; b <= 255; b++) {
            poked.poke(0, b);
        }
        Check.refused("poke(0, -1)", IllegalArgumentException.class, () -> poke(poked, 0, -1));
        Check.refused("poke(0, 256)", IllegalArgumentException.class, () -> poke(poked, 0, 256));
    }

    private static void atMost80Bytes() {
        Check.sentence("Terms", "THE LINE is a row of at most 80 bytes");
        CountedMeter m = newMeter();
        fill(m, 60);
        Check.due("the longest frame", m.frame(16), 69);
        Check.due("putInt behind it", m.putInt(0), 73);
        Check.due("putInt behind that", m.putInt(0), 77);
        Check.refused("one putInt more", IllegalStateException.class, () -> m.putInt(0));
        fill(m, 2);
        Check.due("the last put", m.put(0), 80);
        Check.refused("one put more", IllegalStateException.class, () -> m.put(0));
        Check.refused("a frame of them", IllegalStateException.class, () -> m.frame(16));
        Check.due("deliver of 80 bytes", m.deliver(false), 0);
    }

    private static void bothAreEmptyAtFirst() {
        Check.sentence("Terms", "THE LINE is a row of at most 80 bytes, THE REPLY a row of bytes; both are empty at first");
        CountedMeter m = newMeter();
        Check.refused("reply(0)", IndexOutOfBoundsException.class, () -> m.reply(0));
        Check.refused("poke(0, 0)", IndexOutOfBoundsException.class, () -> poke(m, 0, 0));
        Check.refused("ask()", IllegalStateException.class, m::ask);
        Check.due("deliver(false)", m.deliver(false), 0);
        Check.due("the first put", m.put(0), 1);
        Check.due("the first frame", newMeter().frame(147), 7);
    }

    // ---- promise 9

    private static void putBehindTheLine() {
        Check.sentence("Promise 9", "A byte comes behind the line: how many there are");
        CountedMeter m = newMeter();
        int[] frame = Bytes.frame(147);
        for (int i = 0; i < frame.length; i++) {
            Check.due("put of byte " + i, m.put(frame[i]), i + 1);
        }
        Check.due("a frame that was put", m.deliver(false), 7);
        Check.due("put behind a delivered line", m.put(0), 1);
        m.clear();
        m.frame(0);
        Check.due("put behind a frame", m.put(0), 8);
    }

    private static void putOfNoByte() {
        Check.sentence("Promise 9", "IllegalArgumentException when b is not 0 .. 255");
        CountedMeter m = newMeter();
        for (int b : NO_BYTES) {
            Check.refused("put(" + b + ")", IllegalArgumentException.class, () -> m.put(b));
        }
        Check.due("put(0)", m.put(0), 1);
        Check.due("put(255)", m.put(255), 2);
    }

    private static void putWhenThereAre80() {
        Check.sentence("Promise 9", "IllegalStateException when there are 80");
        CountedMeter m = newMeter();
        for (int i = 1; i <= 80; i++) {
            Check.due("put of number " + i, m.put(i % 2 == 0 ? 0 : 255), i);
        }
        Check.refused("put of number 81", IllegalStateException.class, () -> m.put(0));
        Check.refused("put of number 81 again", IllegalStateException.class, () -> m.put(255));
        m.clear();
        Check.due("put after clear()", m.put(0), 1);
        fill(m, 79);
        Check.refused("put of number 81 once more", IllegalStateException.class, () -> m.put(0));
        m.deliver(false);
        Check.due("put after deliver()", m.put(0), 1);
    }

    // ---- promise 10

    private static void putIntBehindTheLine() {
        Check.sentence("Promise 10", "The four bytes of v come behind the line: how many there are");
        CountedMeter m = newMeter();
        for (int i = 4; i <= 80; i += 4) {
            Check.due("putInt to " + i, m.putInt(i), i);
        }
        m.clear();
        Check.due("put", m.put(9), 1);
        Check.due("putInt behind one byte", m.putInt(-1), 5);
        Check.due("put behind it", m.put(9), 6);
    }

    private static void putIntHasTheHighestByteFirst() {
        Check.sentence("Terms", "numbers of several bytes have the highest one first");
        CountedMeter m = newMeter();
        m.putInt(0x7E051193);
        m.put(42);
        m.put(213);
        m.put(126);
        Check.due("a frame with its first four bytes by putInt", m.deliver(false), 7);
        Client c = Client.manager(1);
        for (int v : new int[] {0x81020384, -1, 0, 1, 255, 256, 65535, 65536, 1 << 24, MIN, MAX}) {
            c.put(193, 1, 2, 5);
            c.meter.putInt(v);
            c.meter.ask();
            c.meter.deliver(false);
            Check.due("register by putInt", c.meter.register(1), v);
            c.tell(193, 1, 2, 5, v >>> 24, v >> 16 & 255, v >> 8 & 255, v & 255);
            Check.due("register by bytes", c.meter.register(1), v);
        }
    }

    private static void putIntBeyond80() {
        Check.sentence("Promise 10", "IllegalStateException when there would be more than 80");
        for (int size = 75; size <= 80; size++) {
            CountedMeter m = newMeter();
            fill(m, size);
            if (size <= 76) {
                Check.due("putInt behind " + size, m.putInt(0), size + 4);
            } else {
                Check.refused("putInt behind " + size, IllegalStateException.class, () -> m.putInt(0));
                m.clear();
                fill(m, 76);
                Check.due("putInt behind 76 after a refused one", m.putInt(0), 80);
            }
        }
    }

    // ---- promise 11

    private static void pokeOfAByte() {
        Check.sentence("Promise 11", "Byte i of the line becomes b");
        int[] frame = Bytes.frame(147);
        for (int i = 0; i < frame.length; i++) {
            CountedMeter m = newMeter();
            for (int k = 0; k < frame.length; k++) {
                m.put(k == i ? frame[k] ^ 1 : frame[k]);
            }
            m.poke(i, frame[i]);
            Check.due("a frame by poke(" + i + ", " + frame[i] + ")", m.deliver(false), 7);
            m.frame(147);
            m.poke(i, frame[i] ^ 128);
            Check.due("no frame by poke(" + i + ", ...)", m.deliver(false), 0);
        }
        CountedMeter m = newMeter();
        m.put(0);
        m.poke(0, 255);
        Check.due("a poke makes the line no longer", m.put(0), 2);
    }

    private static void pokeWhereThereIsNone() {
        Check.sentence("Promise 11", "IndexOutOfBoundsException when there is none");
        for (int size : new int[] {0, 1, 7, 79, 80}) {
            CountedMeter m = newMeter();
            fill(m, 80);
            m.clear();
            fill(m, size);
            for (int i : new int[] {-1, size, size + 1, 81, MIN, MAX}) {
                Check.refused("poke(" + i + ", 0) of " + size, IndexOutOfBoundsException.class, () -> poke(m, i, 0));
            }
            if (size > 0) {
                m.poke(0, 0);
                m.poke(size - 1, 0);
            }
        }
        CountedMeter m = newMeter();
        m.frame(147);
        m.deliver(false);
        Check.refused("poke(0, 0) of a delivered line", IndexOutOfBoundsException.class, () -> poke(m, 0, 0));
    }

    private static void pokeOfNoByte() {
        Check.sentence("Promise 11", "IllegalArgumentException when b is not 0 .. 255");
        CountedMeter m = newMeter();
        m.frame(147);
        for (int b : NO_BYTES) {
            Check.refused("poke(0, " + b + ")", IllegalArgumentException.class, () -> poke(m, 0, b));
            Check.refused("poke(6, " + b + ")", IllegalArgumentException.class, () -> poke(m, 6, b));
        }
        Check.due("the frame is as it was", m.deliver(false), 7);
        m.put(1);
        m.poke(0, 0);
        m.poke(0, 255);
    }

    // ---- promise 12

    private static void frameOfThePayload() {
        Check.sentence("Promise 12", "The line becomes the frame with this control that has the line as payload (none if it is empty): how many bytes there are");
        CountedMeter m = newMeter();
        m.put(1);
        Check.due("frame of one byte", m.frame(16), 10);
        Check.due("frame of a frame", m.frame(0), 19);
        for (int size = 1; size <= 60; size++) {
            Client c = Client.connected(1);
            fill(c.meter, size);
            Check.due("frame of " + size, c.meter.frame(16), size + 9);
            Check.due("the reply to it", c.deliver(), Bytes.frame(48, 216, 2));
        }
        Client c = Client.manager(1);
        c.put(193, 1, 2, 5, 1, 2, 3, 4);
        c.meter.frame(16 + 2 + 32);
        c.meter.deliver(false);
        Check.due("the payload has the line's order", c.meter.register(1), 0x01020304);
    }

    private static void frameOfAnEmptyLine() {
        Check.sentence("Promise 12", "(none if it is empty)");
        CountedMeter m = newMeter();
        Check.due("frame(147) of an empty line", m.frame(147), 7);
        Check.due("it has no payload", m.deliver(false), 7);
        m.put(0);
        Check.due("frame(147) of one byte", m.frame(147), 10);
        Check.due("it has a payload", m.deliver(false), 0);
        m.put(0);
        m.clear();
        Check.due("frame(83) of a cleared line", m.frame(83), 7);
        Check.due("it has none", m.deliver(false), 7);
    }

    private static void frameOfNoControl() {
        Check.sentence("Promise 12", "IllegalArgumentException when control is not 0 .. 255");
        CountedMeter m = newMeter();
        for (int control : NO_BYTES) {
            Check.refused("frame(" + control + ")", IllegalArgumentException.class, () -> m.frame(control));
        }
        Check.due("frame(0)", m.frame(0), 7);
        m.clear();
        Check.due("frame(255)", m.frame(255), 7);
    }

    private static void frameOfMoreThan60() {
        Check.sentence("Promise 12", "IllegalStateException when the line has more than 60");
        for (int size : new int[] {59, 60, 61, 62, 71, 72, 79, 80}) {
            CountedMeter m = newMeter();
            fill(m, size);
            if (size <= 60) {
                Check.due("frame of " + size, m.frame(255), size + 9);
            } else {
                Check.refused("frame of " + size, IllegalStateException.class, () -> m.frame(255));
                Check.refused("poke behind the line then", IndexOutOfBoundsException.class, () -> poke(m, size, 0));
                m.poke(size - 1, 0);
            }
        }
    }

    // ---- promise 13

    private static void askByTheNumbers() {
        Check.sentence("Promise 13", "As frame() with the control of an information frame of S and R");
        Client c = Client.connected(1);
        for (int i = 0; i < 18; i++) {
            int step = i % 8;
            c.put(98);
            Check.due("ask() of one byte", c.meter.ask(), 10);
            int control = 16 + 34 * step;
            int[] frame = Bytes.frame(control, 98);
            // A byte that was as it should be makes no difference.
            c.meter.poke(3, control);
            c.meter.poke(7, frame[7]);
            c.meter.poke(8, frame[8]);
            Check.due("deliver of S and R " + step, c.meter.deliver(false), 10);
            Check.due("reply to S and R " + step, c.meter.reply(3), 16 + 2 * step + 32 * ((step + 1) % 8));
        }
    }

    private static void askOfAnEmptyLine() {
        Check.sentence("Promise 13", "IllegalStateException when the line is empty");
        CountedMeter m = newMeter();
        Check.refused("ask() of an empty line", IllegalStateException.class, m::ask);
        Check.due("the line is empty still", m.put(7), 1);
        Check.due("ask() of one byte", m.ask(), 10);
        m.deliver(false);
        Check.refused("ask() of a delivered line", IllegalStateException.class, m::ask);
        m.put(7);
        m.clear();
        Check.refused("ask() of a cleared line", IllegalStateException.class, m::ask);
    }

    private static void askOfMoreThan60() {
        Check.sentence("Promise 13", "or has more than 60");
        for (int size : new int[] {1, 59, 60, 61, 62, 71, 72, 79, 80}) {
            CountedMeter m = newMeter();
            fill(m, size);
            if (size <= 60) {
                Check.due("ask() of " + size, m.ask(), size + 9);
            } else {
                Check.refused("ask() of " + size, IllegalStateException.class, m::ask);
                Check.refused("poke behind the line then", IndexOutOfBoundsException.class, () -> poke(m, size, 0));
                m.poke(size - 1, 0);
            }
        }
    }

    // ---- promise 14

    private static void clearing() {
        Check.sentence("Promise 14", "The line is empty");
        for (int size : new int[] {0, 1, 60, 61, 80}) {
            CountedMeter m = newMeter();
            fill(m, size);
            m.clear();
            Check.refused("poke of a line cleared of " + size, IndexOutOfBoundsException.class, () -> poke(m, 0, 0));
            Check.refused("ask of a line cleared of " + size, IllegalStateException.class, m::ask);
            Check.due("deliver of a line cleared of " + size, m.deliver(false), 0);
            Check.due("put behind it", m.put(1), 1);
        }
        Client c = Client.manager(1);
        int link = c.meter.link();
        c.put(98);
        c.meter.frame(147);
        c.meter.clear();
        Check.due("clear() leaves the reply", c.meter.reply(6), 97);
        Check.due("clear() leaves the meter", c.meter.link(), link);
        Check.due("clear() leaves the asker's numbers", c.controlForAsking(98), 16 + 2 + 64);
    }
}
