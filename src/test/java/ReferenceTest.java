import java.util.NoSuchElementException;
import java.util.Random;

/** Runs of calls, chosen by a fixed seed, against the document written a second time. */
public final class ReferenceTest {
    private static final int RUNS = 12000;
    private static final int[] EDGES = {0, 1, -1, 2, 3, 12, 13, 255, 256, 1000, 1001, Integer.MAX_VALUE,
        Integer.MAX_VALUE - 1, Integer.MIN_VALUE};

    private final Random random;
    private final int run;
    private final CountedMeter meter;
    private final ReferenceMeter reference;
    private final int secret;
    private int lineSize = 0;
    private int replySize = 0;

    private ReferenceTest(int run) {
        this.run = run;
        random = new Random(run);
        secret = random.nextBoolean() ? random.nextInt() : edge();
        int capacity = random.nextInt(16) - 1;
        meter = new CountedMeter(secret, capacity);
        reference = new ReferenceMeter(secret, capacity);
    }

    public static void main(String[] args) {
        for (int run = 0; run < RUNS; run++) {
            ReferenceTest test = new ReferenceTest(run);
            while (test.meter.callsLeft() > 0) {
                test.step();
            }
        }
        Check.end();
    }

    private int edge() {
        return EDGES[random.nextInt(EDGES.length)];
    }

    private int below(int n) {
        return random.nextInt(n);
    }

    private interface Call {
        long answer();
    }

    private static long answerOf(Call call) {
        try {
            return call.answer();
        } catch (IllegalStateException e) {
            return 1L << 40;
        } catch (NoSuchElementException e) {
            return 1L << 41;
        } catch (IndexOutOfBoundsException e) {
            return 1L << 42;
        } catch (IllegalArgumentException e) {
            return 1L << 43;
        }
    }

    /** Nothing any more when the meter has been called as often as the document says. */
    private long both(String what, Call got, Call due) {
        if (meter.callsLeft() == 0) {
            return 0;
        }
        long want = answerOf(due);
        Check.due("run " + run + ", with " + meter.callsLeft() + " calls left: " + what, answerOf(got), want);
        return want;
    }

    private void step() {
        int kind = below(40);
        if (kind < 3) {
            connect();
        } else if (kind < 6) {
            associate();
        } else if (kind < 30) {
            request();
        } else if (kind < 32) {
            noise();
        } else {
            atTheMeter();
        }
        observe();
    }

    private void connect() {
        if (below(4) == 0) {
            put(below(256));
        }
        frame(below(6) == 0 ? 83 : 147);
        deliver();
    }

    private void associate() {
        if (below(10) == 0) {
            put(98);
        } else {
            putAll(96, below(8) == 0 ? below(256) : below(3) == 0 ? 1 : 2);
            putInt(below(6) == 0 ? edge() : secret);
        }
        send();
    }

    private void request() {
        switch (below(8)) {
            case 0 -> get(below(6), below(10));
            case 1 -> get(4, 2);
            case 2 -> getSome();
            case 3 -> nextBlock();
            case 4 -> setNumber();
            case 5 -> setColumns();
            case 6 -> act(below(6), below(5));
            default -> act(4, 2);
        }
    }

    private void get(int o, int a) {
        putAll(192, below(20) == 0 ? below(4) : 1, o, a, below(20) == 0 ? below(3) : 0);
        send();
    }

    private void getSome() {
        putAll(192, 1, below(8) == 0 ? below(6) : 4, below(8) == 0 ? below(10) : 2, below(20) == 0 ? below(3) : 1);
        putInt(below(3) == 0 ? edge() : reference.time() - below(30));
        putInt(below(3) == 0 ? edge() : reference.time() - below(15));
        send();
    }

    private void nextBlock() {
        int k = below(3);
        for (int i = 0; i < 4; i++) {
            putAll(192, 2, k + i);
            send();
        }
    }

    private void setNumber() {
        int[][] targets = {{0, 2, 6}, {1, 2, 5}, {2, 2, 5}, {3, 2, 5}, {4, 4, 6}, {4, 8, 6}};
        int[] target = targets[below(targets.length)];
        putAll(193, below(10) == 0 ? below(6) : target[0], below(10) == 0 ? below(10) : target[1]);
        put(below(10) == 0 ? below(256) : target[2]);
        putInt(below(3) == 0 ? edge() : below(14));
        send();
    }

    private void setColumns() {
        int number = 1 + below(3);
        int[] order = {1, 2, 3};
        for (int i = 2; i > 0; i--) {
            int j = below(i + 1);
            int kept = order[i];
            order[i] = order[j];
            order[j] = kept;
        }
        putAll(193, 4, 3, below(15) == 0 ? below(3) : 1, below(15) == 0 ? below(256) : number);
        for (int k = 0; k < number; k++) {
            putAll(below(20) == 0 ? below(256) : 17, below(20) == 0 ? below(5) : order[k]);
        }
        send();
    }

    private void act(int o, int m) {
        putAll(195, o, m, below(4) == 0 ? 0 : below(256));
        send();
    }

    private void send() {
        if (below(30) == 0) {
            put(below(256));
        }
        if (below(12) == 0) {
            frame(below(3) == 0 ? below(256) : 16 + 34 * below(8));
        } else {
            ask();
        }
        if (below(25) == 0 && lineSize > 0) {
            poke(below(lineSize + 1), below(256));
        }
        deliver();
    }

    private void noise() {
        switch (below(5)) {
            case 0 -> put(edge());
            case 1 -> frame(below(2) == 0 ? edge() : below(256));
            case 2 -> poke(edge(), edge());
            case 3 -> {
                int number = below(90);
                for (int i = 0; i < number; i++) {
                    put(below(256));
                }
                putInt(random.nextInt());
                ask();
                deliver();
            }
            default -> {
                both("clear()", () -> {
                    meter.clear();
                    return 0;
                }, () -> {
                    reference.clear();
                    return 0;
                });
                lineSize = 0;
                ask();
            }
        }
    }

    private void atTheMeter() {
        int o = below(8) == 0 ? edge() : 1 + below(3);
        int d = below(3) == 0 ? edge() : below(1000);
        int n = below(6) == 0 ? edge() : below(40);
        int i = below(8) == 0 ? edge() : below(13);
        int k = below(8) == 0 ? edge() : below(5);
        both("count(" + o + ", " + d + ")", () -> meter.count(o, d), () -> reference.count(o, d));
        both("register(" + o + ")", () -> meter.register(o), () -> reference.register(o));
        both("entry(" + i + ", " + k + ")", () -> meter.entry(i, k), () -> reference.entry(i, k));
        both("run(" + n + ")", () -> {
            meter.run(n);
            return 0;
        }, () -> {
            reference.run(n);
            return 0;
        });
    }

    private void observe() {
        int r = below(4) == 0 ? edge() : below(60);
        both("time()", meter::time, reference::time);
        both("entries()", meter::entries, reference::entries);
        both("link()", meter::link, reference::link);
        both("reply(" + r + ")", () -> meter.reply(r), () -> reference.reply(r));
        int i = below(13);
        int k = below(4);
        both("entry(" + i + ", " + k + ")", () -> meter.entry(i, k), () -> reference.entry(i, k));
    }

    private void putAll(int... bytes) {
        for (int b : bytes) {
            put(b);
        }
    }

    private void put(int b) {
        grown(both("put(" + b + ")", () -> meter.put(b), () -> reference.put(b)));
    }

    private void putInt(int v) {
        grown(both("putInt(" + v + ")", () -> meter.putInt(v), () -> reference.putInt(v)));
    }

    private void frame(int control) {
        grown(both("frame(" + control + ")", () -> meter.frame(control), () -> reference.frame(control)));
    }

    private void ask() {
        grown(both("ask()", meter::ask, reference::ask));
    }

    private void grown(long size) {
        if (size <= 80) {
            lineSize = (int) size;
        }
    }

    private void poke(int i, int b) {
        both("poke(" + i + ", " + b + ")", () -> {
            meter.poke(i, b);
            return 0;
        }, () -> {
            reference.poke(i, b);
            return 0;
        });
    }

    private void deliver() {
        boolean lost = below(12) == 0;
        replySize = (int) both("deliver(" + lost + ")", () -> meter.deliver(lost), () -> reference.deliver(lost));
        lineSize = 0;
        // All bytes of every reply would leave few calls for requests.
        int from = below(3) == 0 ? 0 : below(replySize + 1);
        int to = from == 0 ? replySize : Math.min(replySize, from + 2);
        for (int i = from; i <= to; i++) {
            int at = i;
            both("reply(" + i + ")", () -> meter.reply(at), () -> reference.reply(at));
        }
    }
}
