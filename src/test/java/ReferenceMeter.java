import java.util.ArrayList;
import java.util.HashSet;
import java.util.List;
import java.util.NoSuchElementException;

/** The document written down a second time, with lists and long numbers and no care for their cost. */
final class ReferenceMeter {
    private final long secret;
    private long capacity;
    private long period = 0;
    private long time = 0;
    private final int[] register = new int[4];
    private List<Integer> columns = List.of(1);
    private final List<int[]> entries = new ArrayList<>();
    private boolean connected = false;
    private int expected;
    private int next;
    private int association;
    private List<Integer> longValue = null;
    private int blocks;
    private List<Integer> latest = null;
    private int askerS = 0;
    private int askerR = 0;
    private List<Integer> line = new ArrayList<>();
    private List<Integer> reply = new ArrayList<>();

    ReferenceMeter(int secret, int capacity) {
        this.secret = secret & 0xFFFFFFFFL;
        this.capacity = capacity < 1 ? 1 : capacity > 12 ? 12 : capacity;
    }

    void run(int n) {
        if (n < 0 || n > 1000) {
            throw new IllegalArgumentException();
        }
        for (int i = 0; i < n; i++) {
            time = (time + 1) % (1L << 31);
            if (period != 0 && time % period == 0) {
                capture();
            }
        }
    }

    private void capture() {
        int[] entry = new int[columns.size() + 1];
        entry[0] = (int) time;
        for (int k = 1; k < entry.length; k++) {
            entry[k] = register[columns.get(k - 1)];
        }
        entries.add(entry);
        if (entries.size() > capacity) {
            entries.remove(0);
        }
    }

    int count(int o, int d) {
        register(o);
        return register[o] += d;
    }

    int time() {
        return (int) time;
    }

    int register(int o) {
        if (o < 1 || o > 3) {
            throw new IndexOutOfBoundsException();
        }
        return register[o];
    }

    int entries() {
        return entries.size();
    }

    int entry(int i, int k) {
        if (i < 0 || i >= entries.size()) {
            throw new IndexOutOfBoundsException();
        }
        if (k < 0 || k > columns.size()) {
            throw new NoSuchElementException();
        }
        return entries.get(i)[k];
    }

    int link() {
        return connected ? 1 + 4 * association + 16 * expected + 128 * next : 0;
    }

    int put(int b) {
        if (b < 0 || b > 255) {
            throw new IllegalArgumentException();
        }
        if (line.size() == 80) {
            throw new IllegalStateException();
        }
        line.add(b);
        return line.size();
    }

    int putInt(int v) {
        if (line.size() > 76) {
            throw new IllegalStateException();
        }
        line.addAll(number(v & 0xFFFFFFFFL));
        return line.size();
    }

    void poke(int i, int b) {
        if (i < 0 || i >= line.size()) {
            throw new IndexOutOfBoundsException();
        }
        if (b < 0 || b > 255) {
            throw new IllegalArgumentException();
        }
        line.set(i, b);
    }

    int frame(int control) {
        if (control < 0 || control > 255) {
            throw new IllegalArgumentException();
        }
        if (line.size() > 60) {
            throw new IllegalStateException();
        }
        line = framed(control, line);
        return line.size();
    }

    int ask() {
        if (line.isEmpty() || line.size() > 60) {
            throw new IllegalStateException();
        }
        line = framed(16 + 2 * askerS + 32 * askerR, line);
        return line.size();
    }

    void clear() {
        line = new ArrayList<>();
    }

    int deliver(boolean lost) {
        List<Integer> frame = line;
        line = new ArrayList<>();
        reply = looked(frame);
        if (lost) {
            reply = new ArrayList<>();
        }
        if (!reply.isEmpty()) {
            int control = reply.get(3);
            if (control == 115) {
                askerS = 0;
                askerR = 0;
            } else if (control % 2 == 0 && control % 16 / 2 == askerR && control / 32 == (askerS + 1) % 8) {
                askerS = (askerS + 1) % 8;
                askerR = (askerR + 1) % 8;
            }
        }
        return reply.size();
    }

    int reply(int i) {
        if (i < 0 || i >= reply.size()) {
            throw new IndexOutOfBoundsException();
        }
        return reply.get(i);
    }

    private static List<Integer> number(long v) {
        return List.of((int) (v >> 24 & 255), (int) (v >> 16 & 255), (int) (v >> 8 & 255), (int) (v & 255));
    }

    private static long number(List<Integer> bytes) {
        long v = 0;
        for (int b : bytes) {
            v = v * 256 + b;
        }
        return v;
    }

    private static int[] array(List<Integer> bytes) {
        return bytes.stream().mapToInt(Integer::intValue).toArray();
    }

    private static List<Integer> framed(int control, List<Integer> payload) {
        List<Integer> frame = new ArrayList<>();
        for (int b : Bytes.frame(control, array(payload))) {
            frame.add(b);
        }
        return frame;
    }

    /** Null when the bytes are no frame: a frame is just what comes of framing what it would hold. */
    private static List<Integer> payloadOf(List<Integer> bytes) {
        int size = bytes.size();
        if (size != 7 && (size < 10 || size > 69)) {
            return null;
        }
        List<Integer> payload = size == 7 ? List.of() : bytes.subList(6, size - 3);
        return framed(bytes.get(3), payload).equals(bytes) ? payload : null;
    }

    private List<Integer> looked(List<Integer> frame) {
        List<Integer> payload = payloadOf(frame);
        if (payload == null) {
            return new ArrayList<>();
        }
        int control = frame.get(3);
        if (payload.isEmpty() && control == 147) {
            connected = true;
            expected = 0;
            next = 0;
            association = 0;
            longValue = null;
            latest = null;
            return framed(115, List.of());
        }
        if (payload.isEmpty() && control == 83) {
            boolean was = connected;
            connected = false;
            return framed(was ? 115 : 31, List.of());
        }
        for (int s = 0; s < 8 && !payload.isEmpty(); s++) {
            for (int r = 0; r < 8; r++) {
                if (control == 16 + 2 * s + 32 * r) {
                    return informed(s, r, payload);
                }
            }
        }
        return new ArrayList<>();
    }

    private List<Integer> informed(int s, int r, List<Integer> payload) {
        if (!connected) {
            return framed(31, List.of());
        }
        if (s == expected && r == next) {
            int was = next;
            expected = (expected + 1) % 8;
            next = (next + 1) % 8;
            latest = framed(16 + 2 * was + 32 * expected, answered(payload));
            return latest;
        }
        if ((s + 1) % 8 == expected && (r + 1) % 8 == next && latest != null) {
            return latest;
        }
        return framed(17 + 32 * expected, List.of());
    }

    private List<Integer> answered(List<Integer> p) {
        List<Integer> held = longValue;
        longValue = null;
        int n = p.size();
        int first = p.get(0);
        if (first == 96 && n == 6) {
            int l = p.get(1);
            association = l == 1 || l == 2 && number(p.subList(2, 6)) == secret ? l : 0;
            return List.of(97, association == 0 ? 1 : 0);
        }
        if (first == 98 && n == 1) {
            association = 0;
            return List.of(99);
        }
        if (association == 0 && (first == 192 || first == 193 || first == 195)) {
            return List.of(216, 1);
        }
        if (first == 192 && n == 5 && p.get(1) == 1 && p.get(4) == 0) {
            return got(p.get(2), p.get(3), false, 0, Long.MAX_VALUE);
        }
        if (first == 192 && n == 13 && p.get(1) == 1 && p.get(4) == 1) {
            return got(p.get(2), p.get(3), true, number(p.subList(5, 9)), number(p.subList(9, 13)));
        }
        if (first == 192 && n == 3 && p.get(1) == 2) {
            if (held == null) {
                return List.of(196, 1, 1, 16);
            }
            if (p.get(2) != blocks) {
                return List.of(196, 1, 1, 19);
            }
            longValue = held;
            return block();
        }
        if (first == 193 && n >= 3) {
            return List.of(197, set(p.get(1), p.get(2), p.subList(3, n)));
        }
        if (first == 195 && n == 4) {
            return List.of(199, acted(p.get(1), p.get(2), p.get(3)));
        }
        return List.of(216, 2);
    }

    private List<Integer> got(int o, int a, boolean bounded, long from, long to) {
        if (o > 4) {
            return List.of(196, 1, 1, 4);
        }
        List<Integer> v = value(o, a, from, to);
        if (v == null) {
            return List.of(196, 1, 1, 9);
        }
        if (bounded && (o != 4 || a != 2)) {
            return List.of(196, 1, 1, 13);
        }
        if (v.size() > 40) {
            longValue = v;
            blocks = 0;
            return block();
        }
        List<Integer> answer = new ArrayList<>(List.of(196, 1, 0));
        answer.addAll(v);
        return answer;
    }

    private List<Integer> block() {
        int from = 40 * blocks;
        int to = Math.min(longValue.size(), from + 40);
        blocks++;
        List<Integer> answer = new ArrayList<>(List.of(196, 2, to == longValue.size() ? 1 : 0, blocks));
        answer.addAll(longValue.subList(from, to));
        if (to == longValue.size()) {
            longValue = null;
        }
        return answer;
    }

    private static List<Integer> tagged(int tag, long v) {
        List<Integer> bytes = new ArrayList<>(List.of(tag));
        bytes.addAll(number(v));
        return bytes;
    }

    /** Null when there is no such attribute. */
    private List<Integer> value(int o, int a, long from, long to) {
        if (a == 1) {
            return List.of(9, 2, 1, o);
        }
        switch (10 * o + a) {
            case 2:
                return tagged(6, time);
            case 12: case 22: case 32:
                return a == 2 ? tagged(5, register[o]) : null;
            case 13: case 23: case 33:
                return a == 3 ? List.of(2, 2, 15, (o + 254) % 256, 22, 27 + o) : null;
            case 42:
                return a == 2 ? chosen(from, to) : null;
            case 43:
                List<Integer> v = new ArrayList<>(List.of(1, columns.size()));
                columns.forEach(c -> v.addAll(List.of(17, c)));
                return a == 3 ? v : null;
            case 44:
                return a == 4 ? tagged(6, period) : null;
            case 47:
                return a == 7 ? tagged(6, entries.size()) : null;
            case 48:
                return a == 8 ? tagged(6, capacity) : null;
            default:
                return null;
        }
    }

    private List<Integer> chosen(long from, long to) {
        List<Integer> v = new ArrayList<>();
        int number = 0;
        for (int[] entry : entries) {
            if (entry[0] >= from && entry[0] <= to) {
                number++;
                v.addAll(List.of(2, entry.length));
                for (int k = 0; k < entry.length; k++) {
                    v.addAll(tagged(k == 0 ? 6 : 5, entry[k]));
                }
            }
        }
        v.addAll(0, List.of(1, number));
        return v;
    }

    private int set(int o, int a, List<Integer> v) {
        if (o > 4) {
            return 4;
        }
        if (value(o, a, 0, 0) == null) {
            return 9;
        }
        boolean settable = o < 4 ? a == 2 : a == 3 || a == 4 || a == 8;
        if (association != 2 || !settable) {
            return 3;
        }
        if (o == 4 && a == 3) {
            return setColumns(v);
        }
        int tag = o >= 1 && o <= 3 ? 5 : 6;
        if (v.size() != 5 || v.get(0) != tag) {
            return 12;
        }
        long given = number(v.subList(1, 5));
        if (tag == 5) {
            register[o] = (int) given;
            return 0;
        }
        if (given >= 1L << 31 || a == 8 && (given < 1 || given > 12)) {
            return 12;
        }
        if (o == 0) {
            time = given;
        } else if (a == 4) {
            period = given;
        } else {
            capacity = given;
            entries.clear();
        }
        return 0;
    }

    private int setColumns(List<Integer> v) {
        List<Integer> wanted = new ArrayList<>();
        for (int i = 3; i < v.size(); i += 2) {
            wanted.add(v.get(i));
        }
        List<Integer> due = new ArrayList<>(List.of(1, wanted.size()));
        wanted.forEach(c -> due.addAll(List.of(17, c)));
        boolean different = new HashSet<>(wanted).size() == wanted.size();
        if (!due.equals(v) || wanted.isEmpty() || !different || !List.of(1, 2, 3).containsAll(wanted)) {
            return 12;
        }
        columns = wanted;
        entries.clear();
        return 0;
    }

    private int acted(int o, int m, int p) {
        if (o > 4) {
            return 4;
        }
        boolean known = o == 0 && m == 3 || o == 4 && (m == 1 || m == 2) || o >= 1 && o <= 3 && m == 1;
        if (!known) {
            return 9;
        }
        if (association != 2) {
            return 3;
        }
        if (o == 0 && p == 0) {
            return 13;
        }
        if (o == 0) {
            time = time / p * p;
        } else if (o < 4) {
            register[o] = 0;
        } else if (m == 1) {
            entries.clear();
        } else {
            capture();
        }
        return 0;
    }
}
