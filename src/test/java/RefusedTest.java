import java.util.ArrayList;
import java.util.List;
import java.util.NoSuchElementException;
import java.util.function.Supplier;

/** Of every promise that names an exception: which of several is thrown, and that nothing changes. */
public final class RefusedTest {
    private static final int MAX = Integer.MAX_VALUE;
    private static final int MIN = Integer.MIN_VALUE;

    public static void main(String[] args) {
        theOneNamedFirstOfEntry();
        theOneNamedFirstOfPut();
        theOneNamedFirstOfPoke();
        theOneNamedFirstOfFrame();
        nothingChangesOfANewObject();
        nothingChangesOfAShortLine();
        nothingChangesOfALongFrame();
        nothingChangesOfAFullLine();
        nothingChangesOfALineOf77();
        nothingChangesOfALostReply();
        nothingChangesOfALongValue();
        Check.end();
    }

    private static int poke(Client c, int i, int b) {
        c.meter.poke(i, b);
        return 0;
    }

    private static int run(Client c, int n) {
        c.meter.run(n);
        return 0;
    }

    // ---- which one is thrown

    private static void theOneNamedFirstOfEntry() {
        Check.sentence("Terms", "Of several exceptions the one named first is thrown");
        Client c = Client.manager(2);
        for (int k : new int[] {-1, 2, MIN, MAX}) {
            Check.refused("entry(0, " + k + ") of none", IndexOutOfBoundsException.class, () -> c.meter.entry(0, k));
        }
        c.capture();
        for (int k : new int[] {-1, 2, MIN, MAX}) {
            Check.refused("entry(1, " + k + ")", IndexOutOfBoundsException.class, () -> c.meter.entry(1, k));
            Check.refused("entry(-1, " + k + ")", IndexOutOfBoundsException.class, () -> c.meter.entry(-1, k));
            Check.refused("entry(0, " + k + ")", NoSuchElementException.class, () -> c.meter.entry(0, k));
        }
    }

    private static void theOneNamedFirstOfPut() {
        Check.sentence("Terms", "Of several exceptions the one named first is thrown");
        Client c = new Client(1);
        c.put(Bytes.repeated(7, 80));
        for (int b : new int[] {-1, 256, MIN, MAX}) {
            Check.refused("put(" + b + ") behind 80", IllegalArgumentException.class, () -> c.meter.put(b));
        }
        Check.refused("put(255) behind 80", IllegalStateException.class, () -> c.meter.put(255));
    }

    private static void theOneNamedFirstOfPoke() {
        Check.sentence("Terms", "Of several exceptions the one named first is thrown");
        Client c = new Client(1);
        for (int b : new int[] {-1, 256, MIN, MAX}) {
            Check.refused("poke(0, " + b + ") of none", IndexOutOfBoundsException.class, () -> poke(c, 0, b));
            Check.refused("poke(-1, " + b + ") of none", IndexOutOfBoundsException.class, () -> poke(c, -1, b));
        }
        c.put(7);
        for (int b : new int[] {-1, 256, MIN, MAX}) {
            Check.refused("poke(1, " + b + ")", IndexOutOfBoundsException.class, () -> poke(c, 1, b));
            Check.refused("poke(-1, " + b + ")", IndexOutOfBoundsException.class, () -> poke(c, -1, b));
            Check.refused("poke(0, " + b + ")", IllegalArgumentException.class, () -> poke(c, 0, b));
        }
    }

    private static void theOneNamedFirstOfFrame() {
        Check.sentence("Terms", "Of several exceptions the one named first is thrown");
        Client c = new Client(1);
        c.put(Bytes.repeated(7, 61));
        for (int control : new int[] {-1, 256, MIN, MAX}) {
            Check.refused("frame(" + control + ") of 61", IllegalArgumentException.class, () -> c.meter.frame(control));
        }
        Check.refused("frame(255) of 61", IllegalStateException.class, () -> c.meter.frame(255));
    }

    // ---- nothing changes

    private static void nothingChangesOfANewObject() {
        nothingChanges(() -> new Client(2), 0, 0, 0);
    }

    private static void nothingChangesOfAShortLine() {
        nothingChanges(() -> {
            Client c = Client.reader(2);
            c.meter.frame(147);
            return c;
        }, 7, 0, 11);
    }

    /** A request of 60 bytes that comes in step: no refused call may spoil a byte of it. */
    private static void nothingChangesOfALongFrame() {
        nothingChanges(() -> {
            Client c = Client.connected(2);
            c.put(Bytes.repeated(200, 60));
            c.meter.ask();
            return c;
        }, 69, 0, 7);
    }

    private static void nothingChangesOfALineOf77() {
        nothingChanges(() -> {
            Client c = Client.manager(2);
            c.put(Bytes.repeated(126, 77));
            return c;
        }, 77, 0, 11);
    }

    private static void nothingChangesOfAFullLine() {
        nothingChanges(() -> {
            Client c = Client.manager(2);
            c.put(Bytes.repeated(126, 80));
            return c;
        }, 80, 0, 11);
    }

    private static void nothingChangesOfALostReply() {
        nothingChanges(() -> {
            Client c = Client.manager(2);
            c.askInVain(195, 4, 2, 0);
            c.put(98);
            c.meter.ask();
            return c;
        }, 10, 1, 0);
    }

    private static void nothingChangesOfALongValue() {
        nothingChanges(() -> {
            Client c = Client.manager(2);
            c.set(4, 4, 6, 1);
            c.set(4, 3, Bytes.columns(2, 3, 1));
            for (int o = 1; o <= 3; o++) {
                c.meter.count(o, 100 * o);
            }
            c.meter.run(5);
            c.tell(192, 1, 4, 2, 0);
            c.put(192, 2, 1);
            c.meter.ask();
            return c;
        }, 12, 2, 53);
    }

    /** Two objects that are made alike show the same, though one of them has refused all that it can. */
    private static void nothingChanges(Supplier<Client> made, int lineSize, int entries, int replySize) {
        Check.sentence("Terms", "a call that throws changes nothing");
        Client c = made.get();
        for (int round = 0; round < 2; round++) {
            refuseAtTheMeter(c, entries);
            refuseBytes(c, lineSize);
            refuseFrames(c, lineSize);
            Check.refused("reply(-1)", IndexOutOfBoundsException.class, () -> c.meter.reply(-1));
            Check.refused("reply behind it", IndexOutOfBoundsException.class, () -> c.meter.reply(replySize));
        }
        Check.due("all that is seen", seen(c), seen(made.get()));
    }

    private static void refuseAtTheMeter(Client c, int entries) {
        Check.refused("run(-1)", IllegalArgumentException.class, () -> run(c, -1));
        Check.refused("run(1001)", IllegalArgumentException.class, () -> run(c, 1001));
        Check.refused("count(0, 5)", IndexOutOfBoundsException.class, () -> c.meter.count(0, 5));
        Check.refused("count(4, 5)", IndexOutOfBoundsException.class, () -> c.meter.count(4, 5));
        Check.refused("register(0)", IndexOutOfBoundsException.class, () -> c.meter.register(0));
        Check.refused("register(4)", IndexOutOfBoundsException.class, () -> c.meter.register(4));
        Check.refused("entry(-1, 0)", IndexOutOfBoundsException.class, () -> c.meter.entry(-1, 0));
        Check.refused("entry behind the last", IndexOutOfBoundsException.class, () -> c.meter.entry(entries, 0));
        if (entries > 0) {
            Check.refused("entry with k -1", NoSuchElementException.class, () -> c.meter.entry(entries - 1, -1));
            Check.refused("entry with k 4", NoSuchElementException.class, () -> c.meter.entry(entries - 1, 4));
        }
    }

    private static void refuseBytes(Client c, int lineSize) {
        Check.refused("put(-1)", IllegalArgumentException.class, () -> c.meter.put(-1));
        Check.refused("put(256)", IllegalArgumentException.class, () -> c.meter.put(256));
        if (lineSize == 80) {
            Check.refused("put(0)", IllegalStateException.class, () -> c.meter.put(0));
        }
        if (lineSize > 76) {
            Check.refused("putInt(0)", IllegalStateException.class, () -> c.meter.putInt(0));
        }
        Check.refused("poke(-1, 0)", IndexOutOfBoundsException.class, () -> poke(c, -1, 0));
        Check.refused("poke behind the line", IndexOutOfBoundsException.class, () -> poke(c, lineSize, 0));
        if (lineSize > 0) {
            Check.refused("poke(0, -1)", IllegalArgumentException.class, () -> poke(c, 0, -1));
            Check.refused("poke of the last", IllegalArgumentException.class, () -> poke(c, lineSize - 1, 256));
        }
    }

    private static void refuseFrames(Client c, int lineSize) {
        Check.refused("frame(-1)", IllegalArgumentException.class, () -> c.meter.frame(-1));
        Check.refused("frame(256)", IllegalArgumentException.class, () -> c.meter.frame(256));
        if (lineSize > 60) {
            Check.refused("frame(147)", IllegalStateException.class, () -> c.meter.frame(147));
        }
        if (lineSize > 60 || lineSize == 0) {
            Check.refused("ask()", IllegalStateException.class, c.meter::ask);
        }
    }

    /** What the meter and the reply are, then what comes of the line and of a request. */
    private static int[] seen(Client c) {
        List<Integer> seen = new ArrayList<>();
        addState(c, seen);
        addReply(c, seen);
        seen.add(c.meter.deliver(false));
        addReply(c, seen);
        addState(c, seen);
        c.put(98);
        seen.add(c.meter.ask());
        seen.add(c.meter.deliver(false));
        addReply(c, seen);
        seen.add(c.meter.link());
        return seen.stream().mapToInt(Integer::intValue).toArray();
    }

    private static void addState(Client c, List<Integer> seen) {
        seen.add(c.meter.time());
        for (int o = 1; o <= 3; o++) {
            seen.add(c.meter.register(o));
        }
        int entries = c.meter.entries();
        seen.add(entries);
        for (int i = 0; i < entries; i++) {
            seen.add(c.meter.entry(i, 0));
            seen.add(c.meter.entry(i, 1));
        }
        seen.add(c.meter.link());
    }

    private static void addReply(Client c, List<Integer> seen) {
        try {
            for (int i = 0; i < 80; i++) {
                seen.add(c.meter.reply(i));
            }
        } catch (IndexOutOfBoundsException e) {
            seen.add(-1);
        }
    }
}
