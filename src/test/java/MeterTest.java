import java.util.NoSuchElementException;

/** Promises 1 to 8 and the terms of the meter: a method for each sentence. */
public final class MeterTest {
    private static final int MAX = Integer.MAX_VALUE;
    private static final int MIN = Integer.MIN_VALUE;

    public static void main(String[] args) {
        timeAtFirst();
        registersAtFirst();
        profileAtFirst();
        notConnectedAtFirst();
        secret();
        capacityTooSmall();
        capacityTooLarge();
        capacityBetween();
        capturesComeBehind();
        firstEntryGone();
        columnsRegisters();
        secondsGoBy();
        timeWraps();
        noPeriod();
        multiplesOfThePeriod();
        greatPeriods();
        runOfWrongNumbers();
        counting();
        countingWraps();
        countingWrongRegisters();
        theTime();
        theRegisters();
        wrongRegisters();
        howManyEntries();
        partsOfEntries();
        noSuchEntry();
        noSuchK();
        linkWhenNotConnected();
        linkWhenConnected();
        all512Calls();
        Check.end();
    }

    // ---- terms

    private static void timeAtFirst() {
        Check.sentence("Terms", "THE METER has a TIME (0 .. 2^31 - 1, 0 at first)");
        Check.due("time()", new Client(5).meter.time(), 0);
        Check.due("attribute 2 of the clock", Client.reader(5).get(0, 2), Bytes.got(6, 0, 0, 0, 0));
    }

    private static void registersAtFirst() {
        Check.sentence("Terms", "the REGISTERS 1 .. 3 (ints, 0 at first)");
        Client c = Client.reader(5);
        for (int o = 1; o <= 3; o++) {
            Check.due("register(" + o + ")", c.meter.register(o), 0);
            Check.due("attribute 2 of " + o, c.get(o, 2), Bytes.got(5, 0, 0, 0, 0));
        }
    }

    private static void profileAtFirst() {
        Check.sentence("Terms", "a PERIOD (0 .. 2^31 - 1, 0 at first)");
        Client c = Client.reader(5);
        Check.due("attribute 4 of the profile", c.get(4, 4), Bytes.got(6, 0, 0, 0, 0));
        Check.sentence("Terms", "COLUMNS (one to three different registers in any order; at first just 1)");
        Check.due("attribute 3 of the profile", c.get(4, 3), Bytes.got(1, 1, 17, 1));
        Check.sentence("Terms", "at first just 1) and ENTRIES (none at first)");
        Check.due("entries()", c.meter.entries(), 0);
        Check.due("attribute 2 of the profile", c.get(4, 2), Bytes.got(1, 0));
        Check.due("attribute 7 of the profile", c.get(4, 7), Bytes.got(6, 0, 0, 0, 0));
    }

    private static void notConnectedAtFirst() {
        Check.sentence("Terms", "It is CONNECTED or not (not at first)");
        Client c = new Client(5);
        Check.due("link()", c.meter.link(), 0);
        Check.due("a request", c.controlFor(16, 98), 31);
    }

    private static void capturesComeBehind() {
        Check.sentence("Terms", "To CAPTURE: an entry with the time and the columns' registers comes behind the others");
        Client c = Client.manager(3);
        for (int i = 1; i <= 3; i++) {
            c.meter.run(i);
            c.meter.count(1, 100 * i);
            c.capture();
            Check.due("entries()", c.meter.entries(), i);
        }
        entryDue(c, 0, 1, 100);
        entryDue(c, 1, 3, 300);
        entryDue(c, 2, 6, 600);
        c.tell(195, 1, 1, 0);
        entryDue(c, 2, 6, 600);
        Client wrapped = Client.manager(3);
        wrapped.set(0, 2, 6, 9);
        wrapped.capture();
        wrapped.set(0, 2, 6, 4);
        wrapped.capture();
        wrapped.capture();
        entryDue(wrapped, 0, 9, 0);
        entryDue(wrapped, 1, 4, 0);
        entryDue(wrapped, 2, 4, 0);
    }

    private static void firstEntryGone() {
        Check.sentence("Terms", "the first one is gone if there are more than the capacity then");
        for (int capacity = 1; capacity <= 12; capacity++) {
            Client c = Client.manager(capacity);
            c.set(4, 4, 6, 1);
            c.meter.run(capacity);
            Check.due("entries() when full", c.meter.entries(), capacity);
            entryDue(c, 0, 1, 0);
            entryDue(c, capacity - 1, capacity, 0);
            for (int more = 1; more <= 13; more++) {
                c.meter.run(1);
                Check.due("entries() when one came more", c.meter.entries(), capacity);
                entryDue(c, 0, more + 1, 0);
                entryDue(c, capacity - 1, more + capacity, 0);
            }
            c.capture();
            Check.due("entries() when asked for one more", c.meter.entries(), capacity);
            entryDue(c, capacity - 1, 13 + capacity, 0);
        }
    }

    private static void columnsRegisters() {
        Check.sentence("Terms", "each a time and an int for each column");
        Client c = Client.manager(2);
        for (int o = 1; o <= 3; o++) {
            c.meter.count(o, -7 * o);
        }
        c.meter.run(6);
        int[][] orders = {{1}, {2}, {3}, {1, 2}, {2, 1}, {3, 1}, {1, 2, 3}, {3, 1, 2}, {2, 3, 1}};
        for (int[] order : orders) {
            c.set(4, 3, Bytes.columns(order));
            c.capture();
            Check.due("its time", c.meter.entry(0, 0), 6);
            for (int k = 1; k <= order.length; k++) {
                Check.due("column " + k + " of register " + order[k - 1], c.meter.entry(0, k), -7 * order[k - 1]);
            }
        }
    }

    // ---- promise 1

    private static void secret() {
        Check.sentence("Promise 1", "The secret, and the capacity");
        int[] secrets = {0, 1, -1, MIN, MAX, 0x01020304, 0x04030201};
        for (int secret : secrets) {
            for (int given : secrets) {
                CountedMeter m = new CountedMeter(secret, 1);
                m.frame(147);
                m.deliver(false);
                m.put(96);
                m.put(2);
                m.putInt(given);
                m.ask();
                m.deliver(false);
                String what = "secret " + secret + " given " + given;
                Check.due(what, m.reply(7), secret == given ? 0 : 1);
                Check.due(what + ", link()", m.link(), secret == given ? 1 + 8 + 16 + 128 : 1 + 16 + 128);
            }
        }
    }

    private static void capacityTooSmall() {
        Check.sentence("Promise 1", "less than 1 counts as 1");
        capacityDue(MIN, 1);
        capacityDue(-12, 1);
        capacityDue(-1, 1);
        capacityDue(0, 1);
        capacityDue(1, 1);
        capacityDue(2, 2);
    }

    private static void capacityTooLarge() {
        Check.sentence("Promise 1", "more than 12 as 12");
        capacityDue(11, 11);
        capacityDue(12, 12);
        capacityDue(13, 12);
        capacityDue(256, 12);
        capacityDue(MAX, 12);
    }

    private static void capacityBetween() {
        Check.sentence("Terms", "and a PROFILE: a CAPACITY (1 .. 12)");
        for (int capacity = 1; capacity <= 12; capacity++) {
            capacityDue(capacity, capacity);
        }
    }

    private static void capacityDue(int given, int want) {
        Client c = Client.manager(given);
        Check.due("attribute 8 with capacity " + given, c.get(4, 8), Bytes.got(6, 0, 0, 0, want));
        for (int i = 1; i <= 14; i++) {
            c.capture();
            Check.due("entries() with capacity " + given, c.meter.entries(), Math.min(i, want));
        }
    }

    // ---- promise 2

    private static void secondsGoBy() {
        Check.sentence("Promise 2", "n seconds go by: with each the time grows by 1");
        CountedMeter m = new CountedMeter(1, 5);
        int time = 0;
        for (int n : new int[] {0, 1, 0, 2, 999, 1000, 1000, 0, 1}) {
            m.run(n);
            time += n;
            Check.due("time() after run(" + n + ")", m.time(), time);
        }
    }

    private static void timeWraps() {
        Check.sentence("Promise 2", "0 after 2^31 - 1");
        Client c = Client.manager(12);
        c.set(0, 2, 6, MAX - 1);
        c.meter.run(0);
        Check.due("time()", c.meter.time(), MAX - 1);
        c.meter.run(1);
        Check.due("time()", c.meter.time(), MAX);
        c.meter.run(0);
        Check.due("time()", c.meter.time(), MAX);
        c.meter.run(1);
        Check.due("time()", c.meter.time(), 0);
        c.meter.run(1);
        Check.due("time()", c.meter.time(), 1);
        c.set(0, 2, 6, MAX - 1);
        c.meter.run(1000);
        Check.due("time() after a run over the end", c.meter.time(), 998);
    }

    private static void noPeriod() {
        Check.sentence("Promise 2", "if the period is not 0 and the time is a multiple of it, the profile captures");
        Client c = Client.manager(12);
        c.meter.run(1000);
        Check.due("entries() with the period 0 at first", c.meter.entries(), 0);
        c.set(4, 4, 6, 1);
        Check.due("entries() when no second went by", c.meter.entries(), 0);
        c.meter.run(1);
        Check.due("entries() with the period 1", c.meter.entries(), 1);
        c.set(4, 4, 6, 0);
        c.meter.run(1000);
        Check.due("entries() with the period 0 again", c.meter.entries(), 1);
        c.set(0, 2, 6, MAX);
        c.meter.run(1);
        Check.due("entries() with the period 0 at the time 0", c.meter.entries(), 1);
    }

    private static void multiplesOfThePeriod() {
        Check.sentence("Promise 2", "and the time is a multiple of it, the profile captures");
        Client c = Client.manager(12);
        c.meter.run(5);
        c.set(4, 4, 6, 4);
        c.meter.count(1, 7);
        int[][] runs = {{2, 0}, {1, 1}, {0, 1}, {3, 1}, {1, 2}, {1, 2}, {3, 3}, {8, 5}, {1, 5}};
        for (int[] run : runs) {
            c.meter.run(run[0]);
            Check.due("entries() after run(" + run[0] + ")", c.meter.entries(), run[1]);
        }
        for (int i = 0; i < 5; i++) {
            entryDue(c, i, 8 + 4 * i, 7);
        }
        c.meter.count(1, 1);
        c.meter.run(1000);
        Check.due("entries() are the capacity", c.meter.entries(), 12);
        entryDue(c, 0, 980, 8);
        entryDue(c, 11, 1024, 8);
    }

    private static void greatPeriods() {
        Check.sentence("Promise 2", "(0 after 2^31 - 1), and if the period is not 0 and the time is a multiple of it");
        Client c = Client.manager(12);
        c.set(4, 4, 6, MAX);
        c.meter.run(0);
        c.meter.run(1000);
        Check.due("entries() far from the period", c.meter.entries(), 0);
        c.set(0, 2, 6, MAX - 2);
        c.meter.run(1);
        Check.due("entries() one ahead of the greatest time", c.meter.entries(), 0);
        c.meter.run(1);
        Check.due("entries() at the greatest time", c.meter.entries(), 1);
        entryDue(c, 0, MAX, 0);
        c.meter.run(1);
        Check.due("0 is a multiple too", c.meter.entries(), 2);
        entryDue(c, 1, 0, 0);
        c.meter.run(1000);
        Check.due("entries() at 1000", c.meter.entries(), 2);
        c.set(4, 4, 6, 1000);
        c.set(0, 2, 6, MAX - 647);
        c.meter.run(1000);
        Check.due("entries() over the end of the time with the period 1000", c.meter.entries(), 3);
        entryDue(c, 2, 0, 0);
    }

    private static void runOfWrongNumbers() {
        Check.sentence("Promise 2", "IllegalArgumentException when n is not 0 .. 1000");
        Client c = Client.manager(5);
        c.set(4, 4, 6, 1);
        for (int n : new int[] {-1, 1001, -1000, 1002, MIN, MAX}) {
            Check.refused("run(" + n + ")", IllegalArgumentException.class, () -> {
                c.meter.run(n);
                return 0;
            });
            Check.due("time() after run(" + n + ")", c.meter.time(), 0);
            Check.due("entries() after run(" + n + ")", c.meter.entries(), 0);
        }
        c.meter.run(0);
        Check.due("time() after run(0)", c.meter.time(), 0);
        c.meter.run(1000);
        Check.due("time() after run(1000)", c.meter.time(), 1000);
    }

    // ---- promises 3 to 5

    private static void counting() {
        Check.sentence("Promise 3", "Register o grows by d (wrapping): its value then");
        CountedMeter m = new CountedMeter(1, 5);
        Check.due("count(1, 5)", m.count(1, 5), 5);
        Check.due("count(1, -7)", m.count(1, -7), -2);
        Check.due("count(2, 0)", m.count(2, 0), 0);
        Check.due("count(3, 9)", m.count(3, 9), 9);
        Check.due("count(1, 2)", m.count(1, 2), 0);
        Check.due("count(2, 4)", m.count(2, 4), 4);
        Check.due("register(1)", m.register(1), 0);
        Check.due("register(2)", m.register(2), 4);
        Check.due("register(3)", m.register(3), 9);
        Check.due("entries()", m.entries(), 0);
    }

    private static void countingWraps() {
        Check.sentence("Promise 3", "(wrapping)");
        for (int o = 1; o <= 3; o++) {
            CountedMeter m = new CountedMeter(1, 5);
            Check.due("count to 2^31 - 1", m.count(o, MAX), MAX);
            Check.due("count by 1 more", m.count(o, 1), MIN);
            Check.due("count by -1", m.count(o, -1), MAX);
            Check.due("count by 2^31 - 1", m.count(o, MAX), -2);
            Check.due("count by 2", m.count(o, 2), 0);
            Check.due("count by -2^31", m.count(o, MIN), MIN);
            Check.due("count by -2^31 once more", m.count(o, MIN), 0);
        }
    }

    private static void countingWrongRegisters() {
        Check.sentence("Promise 3", "IndexOutOfBoundsException when o is not 1 .. 3");
        CountedMeter m = new CountedMeter(1, 5);
        for (int o = 1; o <= 3; o++) {
            m.count(o, 10 * o);
        }
        for (int o : new int[] {0, 4, -1, 5, MIN, MAX}) {
            Check.refused("count(" + o + ", 1)", IndexOutOfBoundsException.class, () -> m.count(o, 1));
        }
        for (int o = 1; o <= 3; o++) {
            Check.due("register(" + o + ")", m.register(o), 10 * o);
            Check.due("count(" + o + ", 1)", m.count(o, 1), 10 * o + 1);
        }
    }

    private static void theTime() {
        Check.sentence("Promise 4", "The time.");
        Client c = Client.manager(1);
        for (int time : new int[] {0, 1, 255, 256, MAX - 1, MAX}) {
            c.set(0, 2, 6, time);
            Check.due("time()", c.meter.time(), time);
        }
    }

    private static void theRegisters() {
        Check.sentence("Promise 5", "Register o.");
        Client c = Client.manager(1);
        for (int v : new int[] {0, 1, -1, MAX, MIN}) {
            for (int o = 1; o <= 3; o++) {
                c.set(o, 2, 5, v - o);
            }
            for (int o = 1; o <= 3; o++) {
                Check.due("register(" + o + ")", c.meter.register(o), v - o);
            }
        }
    }

    private static void wrongRegisters() {
        Check.sentence("Promise 5", "IndexOutOfBoundsException when o is not 1 .. 3");
        CountedMeter m = new CountedMeter(1, 5);
        for (int o : new int[] {0, 4, -1, 5, MIN, MAX}) {
            Check.refused("register(" + o + ")", IndexOutOfBoundsException.class, () -> m.register(o));
        }
        for (int o = 1; o <= 3; o++) {
            Check.due("register(" + o + ")", m.register(o), 0);
        }
    }

    // ---- promises 6 and 7

    private static void howManyEntries() {
        Check.sentence("Promise 6", "How many entries there are");
        Client c = Client.manager(2);
        Check.due("entries() of none", c.meter.entries(), 0);
        c.capture();
        Check.due("entries() of one", c.meter.entries(), 1);
        c.capture();
        Check.due("entries() when full", c.meter.entries(), 2);
        c.capture();
        Check.due("entries() when one is gone", c.meter.entries(), 2);
        c.tell(195, 4, 1, 0);
        Check.due("entries() when all are gone", c.meter.entries(), 0);
    }

    private static void partsOfEntries() {
        Check.sentence("Promise 7", "Of entry i (from 0) the time (k = 0) or the int of its k-th column");
        Client c = Client.manager(2);
        c.set(4, 3, Bytes.columns(3, 1));
        c.meter.count(1, 10);
        c.meter.count(2, 20);
        c.meter.count(3, -30);
        c.meter.run(6);
        c.capture();
        c.meter.count(3, 1);
        entryDue(c, 0, 6, -30, 10);
        c.capture();
        c.meter.run(1);
        c.capture();
        entryDue(c, 0, 6, -29, 10);
        entryDue(c, 1, 7, -29, 10);
    }

    private static void noSuchEntry() {
        Check.sentence("Promise 7", "IndexOutOfBoundsException when there is no such entry");
        for (int entries = 0; entries <= 3; entries++) {
            Client c = Client.manager(2);
            for (int i = 0; i < entries; i++) {
                c.capture();
            }
            int size = Math.min(2, entries);
            for (int i : new int[] {-1, size, size + 1, 11, 12, 13, MIN, MAX}) {
                Check.refused("entry(" + i + ", 0)", IndexOutOfBoundsException.class, () -> c.meter.entry(i, 0));
                Check.refused("entry(" + i + ", 1)", IndexOutOfBoundsException.class, () -> c.meter.entry(i, 1));
            }
            for (int i = 0; i < size; i++) {
                entryDue(c, i, 0, 0);
            }
        }
    }

    private static void noSuchK() {
        Check.sentence("Promise 7", "NoSuchElementException when there is no such k");
        Client c = Client.manager(2);
        for (int[] columns : new int[][] {{1, 2, 3}, {1}, {3, 1}}) {
            c.set(4, 3, Bytes.columns(columns));
            c.capture();
            int last = columns.length;
            Check.due("entry(0, 0)", c.meter.entry(0, 0), 0);
            Check.due("entry(0, " + last + ")", c.meter.entry(0, last), 0);
            for (int k : new int[] {-1, last + 1, 4, MIN, MAX}) {
                Check.refused("entry(0, " + k + ") of " + last + " columns", NoSuchElementException.class,
                    () -> c.meter.entry(0, k));
            }
        }
    }

    // ---- promise 8

    private static void linkWhenNotConnected() {
        Check.sentence("Promise 8", "0 when the meter is not connected");
        Client c = new Client(1);
        Check.due("link() at first", c.meter.link(), 0);
        c.connect();
        c.tell(96, 1, 0, 0, 0, 0);
        c.controlFor(83);
        Check.due("link() of a reader who left", c.meter.link(), 0);
    }

    private static void linkWhenConnected() {
        Check.sentence("Promise 8", "otherwise 1 + 4 * its association + 16 * EXPECTED + 128 * NEXT");
        Client c = Client.connected(1);
        Check.due("link() when connected", c.meter.link(), 1);
        int[][] payloads = {{98}, {96, 1, 0, 0, 0, 0}, {96, 2, 0x12, 0x34, 0x56, 0x78}};
        for (int i = 1; i <= 18; i++) {
            int association = i % 3;
            c.tell(payloads[association]);
            int step = i % 8;
            Check.due("link() at step " + i, c.meter.link(), 1 + 4 * association + 16 * step + 128 * step);
        }
    }

    private static void all512Calls() {
        Check.sentence("What it is", "An object is used for at most 512 calls after it has been made");
        CountedMeter m = new CountedMeter(1, 1);
        for (int call = 1; call <= 510; call += 2) {
            m.run(1000);
            Check.due("count(1, 1) as call " + (call + 1), m.count(1, 1), (call + 1) / 2);
        }
        Check.due("time() as call 511", m.time(), 255000);
        Check.due("register(1) as call 512", m.register(1), 255);
    }

    private static void entryDue(Client c, int i, int... want) {
        for (int k = 0; k < want.length; k++) {
            Check.due("entry(" + i + ", " + k + ")", c.meter.entry(i, k), want[k]);
        }
    }
}
