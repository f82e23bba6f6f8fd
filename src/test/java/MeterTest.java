import java.util.NoSuchElementException;

/** Promises 1 to 8: what goes on at the meter. */
public final class MeterTest {
    public static void main(String[] args) {
        newObject();
        capacityOfANewObject();
        secretOfANewObject();
        runningWithoutAPeriod();
        runningWithAPeriod();
        runningOverTheEndOfTime();
        runningWithWrongNumbers();
        counting();
        registers();
        entriesAndEntry();
        wrongEntries();
        link();
        Check.end();
    }

    private static void newObject() {
        LoadProfileMeter m = new LoadProfileMeter(1, 5);
        Check.due("new time()", m.time(), 0);
        for (int o = 1; o <= 3; o++) {
            Check.due("new register(" + o + ")", m.register(o), 0);
        }
        Check.due("new entries()", m.entries(), 0);
        Check.due("new link()", m.link(), 0);
        Check.refused("new reply(0)", IndexOutOfBoundsException.class, () -> m.reply(0));
        Check.due("the new line is empty", m.put(0), 1);
        Client c = Client.reader(5);
        Check.due("new period", c.get(4, 4), 196, 1, 0, 6, 0, 0, 0, 0);
        Check.due("new columns", c.get(4, 3), 196, 1, 0, 1, 1, 17, 1);
    }

    private static void capacityOfANewObject() {
        int[][] pairs = {{Integer.MIN_VALUE, 1}, {-1, 1}, {0, 1}, {1, 1}, {2, 2}, {11, 11}, {12, 12}, {13, 12},
            {Integer.MAX_VALUE, 12}};
        for (int[] pair : pairs) {
            Client c = Client.manager(pair[0]);
            Check.due("capacity of " + pair[0], c.get(4, 8), 196, 1, 0, 6, 0, 0, 0, pair[1]);
            for (int i = 0; i < 14; i++) {
                c.meter.count(1, 1);
                c.act(4, 2, 0);
            }
            Check.due("entries kept with capacity " + pair[0], c.meter.entries(), pair[1]);
            Check.due("oldest kept with capacity " + pair[0], c.meter.entry(0, 1), 15 - pair[1]);
            Check.due("newest kept with capacity " + pair[0], c.meter.entry(pair[1] - 1, 1), 14);
        }
    }

    private static void secretOfANewObject() {
        int[] secrets = {0, 1, -1, Integer.MIN_VALUE, Integer.MAX_VALUE, 0x01020304};
        for (int secret : secrets) {
            for (int given : secrets) {
                LoadProfileMeter m = new LoadProfileMeter(secret, 1);
                m.frame(147);
                m.deliver(false);
                m.put(96);
                m.put(2);
                m.putInt(given);
                m.ask();
                m.deliver(false);
                Check.due("secret " + secret + " given " + given, m.reply(7), secret == given ? 0 : 1);
                Check.due("link() then", m.link(), secret == given ? 1 + 8 + 16 + 128 : 1 + 16 + 128);
            }
        }
    }

    private static void runningWithoutAPeriod() {
        LoadProfileMeter m = new LoadProfileMeter(1, 5);
        m.run(0);
        Check.due("time() after run(0)", m.time(), 0);
        m.run(1);
        Check.due("time() after run(1)", m.time(), 1);
        m.run(1000);
        Check.due("time() after run(1000)", m.time(), 1001);
        Check.due("entries() without a period", m.entries(), 0);
    }

    private static void runningWithAPeriod() {
        Client c = Client.manager(3);
        c.meter.run(5);
        Check.due("set period 4", c.set(4, 4, 6, 4), 0);
        c.meter.count(1, 7);
        c.meter.run(2);
        Check.due("entries() at 7", c.meter.entries(), 0);
        c.meter.run(1);
        Check.due("entries() at 8", c.meter.entries(), 1);
        c.meter.count(1, 1);
        c.meter.run(9);
        Check.due("entries() at 17", c.meter.entries(), 3);
        entryDue(c, 0, 8, 7);
        entryDue(c, 1, 12, 8);
        entryDue(c, 2, 16, 8);
        c.meter.run(0);
        Check.due("entries() after run(0)", c.meter.entries(), 3);
        c.meter.run(1000);
        Check.due("entries() are the capacity", c.meter.entries(), 3);
        entryDue(c, 0, 1008, 8);
        entryDue(c, 2, 1016, 8);
        Check.due("set period 0", c.set(4, 4, 6, 0), 0);
        c.meter.run(1000);
        entryDue(c, 2, 1016, 8);
    }

    private static void runningOverTheEndOfTime() {
        Client c = Client.manager(12);
        c.set(0, 2, 6, Integer.MAX_VALUE - 1);
        c.set(4, 4, 6, Integer.MAX_VALUE);
        c.meter.run(1);
        Check.due("time() at its end", c.meter.time(), Integer.MAX_VALUE);
        Check.due("the greatest time is a multiple of the greatest period", c.meter.entries(), 1);
        c.meter.run(1);
        Check.due("time() behind its end", c.meter.time(), 0);
        Check.due("0 is a multiple of every period", c.meter.entries(), 2);
        c.meter.run(3);
        Check.due("time() then", c.meter.time(), 3);
        entryDue(c, 0, Integer.MAX_VALUE, 0);
        entryDue(c, 1, 0, 0);
    }

    private static void runningWithWrongNumbers() {
        LoadProfileMeter m = new LoadProfileMeter(1, 5);
        for (int n : new int[] {-1, 1001, Integer.MIN_VALUE, Integer.MAX_VALUE}) {
            Check.refused("run(" + n + ")", IllegalArgumentException.class, () -> {
                m.run(n);
                return 0;
            });
        }
        Check.due("time() after refused runs", m.time(), 0);
    }

    private static void counting() {
        LoadProfileMeter m = new LoadProfileMeter(1, 5);
        Check.due("count(1, 5)", m.count(1, 5), 5);
        Check.due("count(1, -7)", m.count(1, -7), -2);
        Check.due("count(3, max)", m.count(3, Integer.MAX_VALUE), Integer.MAX_VALUE);
        Check.due("count(3, 1) wraps", m.count(3, 1), Integer.MIN_VALUE);
        Check.due("count(3, -1) wraps back", m.count(3, -1), Integer.MAX_VALUE);
        Check.due("count(2, 0)", m.count(2, 0), 0);
        for (int o : new int[] {0, 4, -1, Integer.MIN_VALUE, Integer.MAX_VALUE}) {
            Check.refused("count(" + o + ", 1)", IndexOutOfBoundsException.class, () -> m.count(o, 1));
        }
        Check.due("register(1)", m.register(1), -2);
        Check.due("register(2)", m.register(2), 0);
        Check.due("register(3)", m.register(3), Integer.MAX_VALUE);
    }

    private static void registers() {
        LoadProfileMeter m = new LoadProfileMeter(1, 5);
        for (int o : new int[] {0, 4, -1, Integer.MIN_VALUE, Integer.MAX_VALUE}) {
            Check.refused("register(" + o + ")", IndexOutOfBoundsException.class, () -> m.register(o));
        }
    }

    private static void entriesAndEntry() {
        Client c = Client.manager(2);
        Check.due("set columns 3, 1", c.set(4, 3, new int[] {1, 2, 17, 3, 17, 1}), 0);
        c.meter.count(1, 10);
        c.meter.count(2, 20);
        c.meter.count(3, -30);
        c.meter.run(6);
        c.act(4, 2, 0);
        c.meter.count(3, 1);
        Check.due("entries()", c.meter.entries(), 1);
        entryDue(c, 0, 6, -30, 10);
        c.act(4, 2, 0);
        c.meter.run(1);
        c.act(4, 2, 0);
        Check.due("entries() of two", c.meter.entries(), 2);
        entryDue(c, 0, 6, -29, 10);
        entryDue(c, 1, 7, -29, 10);
    }

    private static void wrongEntries() {
        Client c = Client.manager(2);
        LoadProfileMeter m = c.meter;
        Check.refused("entry(0, 0) of none", IndexOutOfBoundsException.class, () -> m.entry(0, 0));
        Check.refused("entry(0, 9) of none", IndexOutOfBoundsException.class, () -> m.entry(0, 9));
        c.act(4, 2, 0);
        Check.refused("entry(-1, 0)", IndexOutOfBoundsException.class, () -> m.entry(-1, 0));
        Check.refused("entry(1, 0)", IndexOutOfBoundsException.class, () -> m.entry(1, 0));
        Check.refused("entry(1, -1)", IndexOutOfBoundsException.class, () -> m.entry(1, -1));
        Check.refused("entry(0, -1)", NoSuchElementException.class, () -> m.entry(0, -1));
        Check.refused("entry(0, 2) of one column", NoSuchElementException.class, () -> m.entry(0, 2));
        c.set(4, 3, new int[] {1, 3, 17, 3, 17, 1, 17, 2});
        c.act(4, 2, 0);
        Check.due("entry(0, 3)", m.entry(0, 3), 0);
        Check.refused("entry(0, 4)", NoSuchElementException.class, () -> m.entry(0, 4));
        Check.refused("entry(0, max)", NoSuchElementException.class, () -> m.entry(0, Integer.MAX_VALUE));
    }

    private static void link() {
        Client c = Client.connected(1);
        Check.due("link() when connected", c.meter.link(), 1);
        c.ask(96, 1, 0, 0, 0, 0);
        Check.due("link() of a reader", c.meter.link(), 1 + 4 + 16 + 128);
        c.ask(96, 2, 0x12, 0x34, 0x56, 0x78);
        Check.due("link() of a manager", c.meter.link(), 1 + 8 + 32 + 256);
        for (int i = 0; i < 5; i++) {
            c.ask(0);
        }
        Check.due("link() at 7", c.meter.link(), 1 + 8 + 16 * 7 + 128 * 7);
        c.ask(0);
        Check.due("link() at 0 again", c.meter.link(), 1 + 8);
        c.send(83);
        Check.due("link() when disconnected", c.meter.link(), 0);
    }

    private static void entryDue(Client c, int i, int... want) {
        for (int k = 0; k < want.length; k++) {
            Check.due("entry(" + i + ", " + k + ")", c.meter.entry(i, k), want[k]);
        }
    }
}
