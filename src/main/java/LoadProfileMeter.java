import java.util.NoSuchElementException;

/**
 * A meter that counts, keeps a load profile, and is asked over a line. The
 * numbers in the comments are those of the promises in the document.
 *
 * All rows are made once, with the object: no call makes anything new.
 */
public final class LoadProfileMeter {
    private static final int LINE_LIMIT = 80;
    private static final int RUN_LIMIT = 1000;

    private final Row line = new Row(LINE_LIMIT);
    private final Row answered = new Row(LINE_LIMIT);
    private final Asker asker = new Asker();
    private final Connection connection;
    private final Meter meter;

    /** Promise 1. */
    public LoadProfileMeter(int secret, int capacity) {
        connection = new Connection(secret, capacity);
        meter = connection.meter;
    }

    // ---- what goes on at the meter

    /** Promise 2. */
    public void run(int n) throws IllegalArgumentException {
        if (n < 0 || n > RUN_LIMIT) {
            throw new IllegalArgumentException();
        }
        for (int second = 0; second < n; second++) {
            meter.passSecond();
        }
    }

    /** Promise 3. */
    public int count(int o, int d) throws IndexOutOfBoundsException {
        if (!Meter.isRegister(o)) {
            throw new IndexOutOfBoundsException();
        }
        meter.registers[o - 1] += d;
        return meter.registers[o - 1];
    }

    /** Promise 4. */
    public int time() {
        return meter.now;
    }

    /** Promise 5. */
    public int register(int o) throws IndexOutOfBoundsException {
        if (!Meter.isRegister(o)) {
            throw new IndexOutOfBoundsException();
        }
        return meter.registers[o - 1];
    }

    /** Promise 6. */
    public int entries() {
        return meter.profile.size;
    }

    /** Promise 7. */
    public int entry(int i, int k) throws IndexOutOfBoundsException, NoSuchElementException {
        if (i < 0 || i >= meter.profile.size) {
            throw new IndexOutOfBoundsException();
        }
        if (k < 0 || k > meter.profile.columnCount) {
            throw new NoSuchElementException();
        }
        return meter.profile.at(i, k);
    }

    /** Promise 8. */
    public int link() {
        return connection.state();
    }

    // ---- the line

    /** Promise 9. */
    public int put(int b) throws IllegalArgumentException, IllegalStateException {
        if (!Row.isByte(b)) {
            throw new IllegalArgumentException();
        }
        if (line.size >= LINE_LIMIT) {
            throw new IllegalStateException();
        }
        line.add(b);
        return line.size;
    }

    /** Promise 10. */
    public int putInt(int v) throws IllegalStateException {
        if (line.size + 4 > LINE_LIMIT) {
            throw new IllegalStateException();
        }
        line.addInt(v);
        return line.size;
    }

    /** Promise 11. */
    public void poke(int i, int b) throws IndexOutOfBoundsException, IllegalArgumentException {
        if (i < 0 || i >= line.size) {
            throw new IndexOutOfBoundsException();
        }
        if (!Row.isByte(b)) {
            throw new IllegalArgumentException();
        }
        line.change(i, b);
    }

    /** Promise 12. */
    public int frame(int control) throws IllegalArgumentException, IllegalStateException {
        if (!Row.isByte(control)) {
            throw new IllegalArgumentException();
        }
        if (line.size > Frames.PAYLOAD_LIMIT) {
            throw new IllegalStateException();
        }
        Frames.wrap(line, control);
        return line.size;
    }

    /** Promise 13. */
    public int ask() throws IllegalStateException {
        if (line.size == 0 || line.size > Frames.PAYLOAD_LIMIT) {
            throw new IllegalStateException();
        }
        Frames.wrap(line, Frames.information(asker.s, asker.r));
        return line.size;
    }

    /** Promise 14. */
    public void clear() {
        line.drop();
    }

    /** Promise 15. */
    public int deliver(boolean lost) {
        answered.drop();
        if (Frames.isFrame(line)) {
            connection.receive(line, answered);
        }
        line.drop();
        if (lost) {
            answered.drop();
        } else {
            asker.hear(answered);
        }
        return answered.size;
    }

    /** Promise 16. */
    public int reply(int i) throws IndexOutOfBoundsException {
        if (i < 0 || i >= answered.size) {
            throw new IndexOutOfBoundsException();
        }
        return answered.at(i);
    }

    /** A row of bytes with a limit; what would not fit is not added. */
    private static final class Row {
        private static final int NO_BYTE = -1;

        private final int[] bytes;
        private int size = 0;

        Row(int limit) {
            bytes = new int[limit];
        }

        static boolean isByte(int b) {
            return b >= 0 && b <= 255;
        }

        void drop() {
            size = 0;
        }

        void add(int b) {
            if (size < bytes.length) {
                bytes[size] = b;
                size++;
            }
        }

        void addInt(int v) {
            if (size + 4 <= bytes.length) {
                bytes[size] = v >>> 24;
                bytes[size + 1] = (v >>> 16) & 255;
                bytes[size + 2] = (v >>> 8) & 255;
                bytes[size + 3] = v & 255;
                size += 4;
            }
        }

        void addTagged(int tag, int v) {
            add(tag);
            addInt(v);
        }

        void addPart(Row other, int from, int length) {
            for (int i = 0; i < length; i++) {
                add(other.at(from + i));
            }
        }

        int at(int i) {
            return i >= 0 && i < size ? bytes[i] : NO_BYTE;
        }

        int intAt(int i) {
            return at(i) << 24 | at(i + 1) << 16 | at(i + 2) << 8 | at(i + 3);
        }

        void change(int i, int b) {
            if (i >= 0 && i < size) {
                bytes[i] = b;
            }
        }

        /** The bytes that come free in front keep what they were. */
        void moveBack(int places) {
            if (places >= 0 && size + places <= bytes.length) {
                System.arraycopy(bytes, 0, bytes, places, size);
                size += places;
            }
        }
    }

    /** How frames are made and known. */
    private static final class Frames {
        private static final int PAYLOAD_LIMIT = 60;
        private static final int FLAG = 126;
        private static final int ADDRESS = 17;
        private static final int HEAD_SIZE = 6;
        private static final int TAIL_SIZE = 3;
        private static final int BARE_SIZE = 7;

        private static final int CONNECT = 147;
        private static final int DISCONNECT = 83;
        private static final int ACKNOWLEDGED = 115;
        private static final int DISCONNECTED = 31;

        /** The row, that was a payload or empty, becomes the frame. */
        static void wrap(Row row, int control) {
            int payload = row.size;
            row.moveBack(HEAD_SIZE);
            row.change(0, FLAG);
            row.change(1, payload == 0 ? BARE_SIZE - 2 : HEAD_SIZE + payload + TAIL_SIZE - 2);
            row.change(2, ADDRESS);
            row.change(3, control);
            int headCheck = check(row, 4);
            row.change(4, headCheck & 255);
            row.change(5, headCheck >> 8);
            if (payload > 0) {
                int wholeCheck = check(row, row.size);
                row.add(wholeCheck & 255);
                row.add(wholeCheck >> 8);
            }
            row.add(FLAG);
        }

        static boolean isFrame(Row row) {
            int size = row.size;
            int payload = payloadSize(row);
            if (size != BARE_SIZE && (payload < 1 || payload > PAYLOAD_LIMIT)) {
                return false;
            }
            return row.at(0) == FLAG && row.at(1) == size - 2 && row.at(2) == ADDRESS
                && row.at(size - 1) == FLAG
                && isChecked(row, 4)
                && (size == BARE_SIZE || isChecked(row, size - TAIL_SIZE));
        }

        static int payloadSize(Row row) {
            return row.size - HEAD_SIZE - TAIL_SIZE;
        }

        static boolean isChecked(Row row, int end) {
            int due = check(row, end);
            return row.at(end) == (due & 255) && row.at(end + 1) == due >> 8;
        }

        /** Of the bytes behind the first flag and ahead of the end. */
        static int check(Row row, int end) {
            int c = 65535;
            for (int i = 1; i < end; i++) {
                c ^= row.at(i);
                for (int bit = 0; bit < 8; bit++) {
                    c = (c & 1) == 1 ? c >>> 1 ^ 33800 : c >>> 1;
                }
            }
            return 65535 - c;
        }

        static int information(int s, int r) {
            return 16 + 2 * s + 32 * r;
        }

        static boolean isInformation(int control) {
            return (control & 17) == 16;
        }

        static int after(int number) {
            return number + 1 & 7;
        }

        static int before(int number) {
            return number + 7 & 7;
        }
    }

    /** The one who asks: it only counts the frames that come. */
    private static final class Asker {
        private int s = 0;
        private int r = 0;

        void hear(Row frame) {
            int control = frame.at(3);
            if (control == Frames.ACKNOWLEDGED) {
                s = 0;
                r = 0;
            } else if (control == Frames.information(r, Frames.after(s))) {
                s = Frames.after(s);
                r = Frames.after(r);
            }
        }
    }

    /** What the meter knows of the line: the numbers, the association, the long value. */
    private static final class Connection {
        private static final int BLOCK_SIZE = 40;
        private static final int FRAME_LIMIT = 80;

        private static final int NONE = 0;
        private static final int READER = 1;
        private static final int MANAGER = 2;

        private static final int ASSOCIATE = 96;
        private static final int ASSOCIATED = 97;
        private static final int RELEASE = 98;
        private static final int RELEASED = 99;
        private static final int GET = 192;
        private static final int GOT = 196;
        private static final int SET = 193;
        private static final int WAS_SET = 197;
        private static final int ACT = 195;
        private static final int ACTED = 199;
        private static final int REFUSED = 216;

        private static final int NO_LONG_VALUE = 16;
        private static final int WRONG_BLOCK = 19;

        private final int secret;
        private final Meter meter;
        private final Row request = new Row(Frames.PAYLOAD_LIMIT);
        private final Row latest = new Row(FRAME_LIMIT);
        private final Row value = new Row(Profile.VALUE_LIMIT);
        private boolean connected = false;
        private int expected = 0;
        private int next = 0;
        private int association = NONE;
        /** Of the long value; 0 when there is none. */
        private int blocksSent = 0;

        Connection(int secret, int capacity) {
            this.secret = secret;
            meter = new Meter(capacity);
        }

        int state() {
            return connected ? 1 + 4 * association + 16 * expected + 128 * next : 0;
        }

        void receive(Row frame, Row out) {
            int control = frame.at(3);
            if (frame.size == Frames.BARE_SIZE) {
                receiveBare(control, out);
            } else if (!connected) {
                if (Frames.isInformation(control)) {
                    Frames.wrap(out, Frames.DISCONNECTED);
                }
            } else if (control == Frames.information(expected, next)) {
                request.drop();
                request.addPart(frame, Frames.HEAD_SIZE, Frames.payloadSize(frame));
                answer(out);
                expected = Frames.after(expected);
                Frames.wrap(out, Frames.information(next, expected));
                next = Frames.after(next);
                latest.drop();
                latest.addPart(out, 0, out.size);
            } else if (isLatestAgain(control)) {
                out.addPart(latest, 0, latest.size);
            } else if (Frames.isInformation(control)) {
                Frames.wrap(out, 17 + 32 * expected);
            }
        }

        private void receiveBare(int control, Row out) {
            if (control == Frames.CONNECT) {
                connect();
                Frames.wrap(out, Frames.ACKNOWLEDGED);
            } else if (control == Frames.DISCONNECT) {
                Frames.wrap(out, connected ? Frames.ACKNOWLEDGED : Frames.DISCONNECTED);
                connected = false;
            }
        }

        private void connect() {
            connected = true;
            expected = 0;
            next = 0;
            association = NONE;
            blocksSent = 0;
            latest.drop();
        }

        private boolean isLatestAgain(int control) {
            return latest.size > 0
                && control == Frames.information(Frames.before(expected), Frames.before(next));
        }

        private void answer(Row out) {
            int sentBefore = blocksSent;
            // Every payload ends the long value, but for one that sends a block of it.
            blocksSent = 0;
            if (begins(ASSOCIATE, 6)) {
                associate(out);
            } else if (begins(RELEASE, 1)) {
                association = NONE;
                out.add(RELEASED);
            } else if (association == NONE && needsAssociation()) {
                addTwo(out, REFUSED, 1);
            } else if (begins(GET, 5) && request.at(1) == 1 && request.at(4) == 0) {
                answerGet(out, false, 0, -1);
            } else if (begins(GET, 13) && request.at(1) == 1 && request.at(4) == 1) {
                answerGet(out, true, request.intAt(5), request.intAt(9));
            } else if (begins(GET, 3) && request.at(1) == 2) {
                answerNextBlock(out, sentBefore);
            } else if (request.at(0) == SET && request.size >= 3) {
                addTwo(out, WAS_SET, meter.set(request, association == MANAGER));
            } else if (begins(ACT, 4)) {
                addTwo(out, ACTED, meter.act(request, association == MANAGER));
            } else {
                addTwo(out, REFUSED, 2);
            }
        }

        private boolean begins(int first, int size) {
            return request.at(0) == first && request.size == size;
        }

        private boolean needsAssociation() {
            int first = request.at(0);
            return first == GET || first == SET || first == ACT;
        }

        private void associate(Row out) {
            int wanted = request.at(1);
            boolean granted = wanted == READER
                || wanted == MANAGER && request.intAt(2) == secret;
            association = granted ? wanted : NONE;
            addTwo(out, ASSOCIATED, granted ? 0 : 1);
        }

        /** The bounds are numbers without a sign: 0 and -1 leave every time in. */
        private void answerGet(Row out, boolean bounded, int from, int to) {
            int o = request.at(2);
            int a = request.at(3);
            int result = Meter.resultOfGetting(o, a, bounded);
            if (result != Meter.DONE) {
                addFailure(out, result);
                return;
            }
            value.drop();
            meter.write(value, o, a, from, to);
            if (value.size > BLOCK_SIZE) {
                sendBlock(out, 1);
            } else {
                addTwo(out, GOT, 1);
                out.add(0);
                out.addPart(value, 0, value.size);
            }
        }

        private void answerNextBlock(Row out, int sentBefore) {
            if (sentBefore == 0) {
                addFailure(out, NO_LONG_VALUE);
            } else if (request.at(2) != sentBefore) {
                addFailure(out, WRONG_BLOCK);
            } else {
                sendBlock(out, sentBefore + 1);
            }
        }

        private void sendBlock(Row out, int k) {
            int from = BLOCK_SIZE * (k - 1);
            int left = value.size - from;
            boolean last = left <= BLOCK_SIZE;
            addTwo(out, GOT, 2);
            addTwo(out, last ? 1 : 0, k);
            out.addPart(value, from, last ? left : BLOCK_SIZE);
            blocksSent = last ? 0 : k;
        }

        private static void addFailure(Row out, int result) {
            addTwo(out, GOT, 1);
            addTwo(out, 1, result);
        }

        private static void addTwo(Row out, int first, int second) {
            out.add(first);
            out.add(second);
        }
    }

    /** The objects: the clock, the registers and the profile. */
    private static final class Meter {
        private static final int CLOCK = 0;
        private static final int REGISTERS = 3;
        private static final int PROFILE = 4;
        private static final int LATEST_TIME = 0x7FFFFFFF;

        private static final int ARRAY = 1;
        private static final int STRUCTURE = 2;
        private static final int SIGNED = 5;
        private static final int UNSIGNED = 6;
        private static final int NAME = 9;
        private static final int EXPONENT = 15;
        private static final int SHORT_UNSIGNED = 17;
        private static final int UNIT = 22;

        private static final int DONE = 0;
        private static final int NOT_ALLOWED = 3;
        private static final int NO_OBJECT = 4;
        private static final int NO_MEMBER = 9;
        private static final int WRONG_VALUE = 12;
        private static final int NOT_POSSIBLE = 13;

        private final int[] registers = new int[REGISTERS];
        private final Profile profile;
        private int now = 0;

        Meter(int capacity) {
            profile = new Profile(capacity);
        }

        static boolean isRegister(int o) {
            return o >= 1 && o <= REGISTERS;
        }

        private static boolean isObject(int o) {
            return o >= CLOCK && o <= PROFILE;
        }

        void passSecond() {
            now = now == LATEST_TIME ? 0 : now + 1;
            if (profile.period != 0 && now % profile.period == 0) {
                profile.capture(now, registers);
            }
        }

        private static boolean isAttribute(int o, int a) {
            if (o == CLOCK) {
                return a == 1 || a == 2;
            }
            if (o == PROFILE) {
                return a >= 1 && a <= 4 || a == 7 || a == 8;
            }
            return a >= 1 && a <= 3;
        }

        private static boolean isSettable(int o, int a) {
            return o == PROFILE ? a == 3 || a == 4 || a == 8 : a == 2;
        }

        private static boolean isMethod(int o, int m) {
            if (o == CLOCK) {
                return m == 3;
            }
            return o == PROFILE ? m == 1 || m == 2 : m == 1;
        }

        static int resultOfGetting(int o, int a, boolean bounded) {
            if (!isObject(o)) {
                return NO_OBJECT;
            }
            if (!isAttribute(o, a)) {
                return NO_MEMBER;
            }
            return bounded && !(o == PROFILE && a == 2) ? NOT_POSSIBLE : DONE;
        }

        void write(Row out, int o, int a, int from, int to) {
            if (a == 1) {
                out.add(NAME);
                out.add(2);
                out.add(1);
                out.add(o);
            } else if (o == CLOCK) {
                out.addTagged(UNSIGNED, now);
            } else if (o == PROFILE && a == 2) {
                profile.writeEntries(out, from, to);
            } else if (o == PROFILE) {
                profile.writeSetting(out, a);
            } else if (isRegister(o)) {
                writeRegister(out, o, a);
            }
        }

        private void writeRegister(Row out, int o, int a) {
            if (a == 2) {
                out.addTagged(SIGNED, registers[o - 1]);
            } else {
                out.add(STRUCTURE);
                out.add(2);
                out.add(EXPONENT);
                out.add(o - 2 & 255);
                out.add(UNIT);
                out.add(27 + o);
            }
        }

        int set(Row request, boolean manager) {
            int o = request.at(1);
            int a = request.at(2);
            if (!isObject(o)) {
                return NO_OBJECT;
            }
            if (!isAttribute(o, a)) {
                return NO_MEMBER;
            }
            if (!manager || !isSettable(o, a)) {
                return NOT_ALLOWED;
            }
            boolean taken = o == PROFILE && a == 3
                ? profile.takeColumns(request)
                : takeNumber(request, o, a);
            return taken ? DONE : WRONG_VALUE;
        }

        private boolean takeNumber(Row request, int o, int a) {
            int tag = isRegister(o) ? SIGNED : UNSIGNED;
            if (request.size != 8 || request.at(3) != tag) {
                return false;
            }
            int v = request.intAt(4);
            if (isRegister(o)) {
                registers[o - 1] = v;
                return true;
            }
            if (o == PROFILE) {
                return a == 4 ? profile.takePeriod(v) : profile.takeCapacity(v);
            }
            return takeTime(v);
        }

        private boolean takeTime(int v) {
            if (v < 0) {
                return false;
            }
            now = v;
            return true;
        }

        int act(Row request, boolean manager) {
            int o = request.at(1);
            int m = request.at(2);
            int p = request.at(3);
            if (!isObject(o)) {
                return NO_OBJECT;
            }
            if (!isMethod(o, m)) {
                return NO_MEMBER;
            }
            if (!manager) {
                return NOT_ALLOWED;
            }
            if (o == CLOCK) {
                return roundTime(p);
            }
            if (isRegister(o)) {
                registers[o - 1] = 0;
            } else if (m == 1) {
                profile.forget();
            } else {
                profile.capture(now, registers);
            }
            return DONE;
        }

        private int roundTime(int p) {
            if (p <= 0) {
                return NOT_POSSIBLE;
            }
            now -= now % p;
            return DONE;
        }
    }

    /** The load profile; its entries go round in a ring of places. */
    private static final class Profile {
        private static final int CAPACITY_LIMIT = 12;
        private static final int COLUMN_LIMIT = 3;
        /** Of a place in the ring: the time and an int for each column. */
        private static final int WIDTH = 1 + COLUMN_LIMIT;
        /** Two bytes, and for each entry two and five for each number. */
        private static final int VALUE_LIMIT = 2 + CAPACITY_LIMIT * (2 + 5 * WIDTH);

        private final int[] columns = new int[COLUMN_LIMIT];
        private final int[] ring = new int[CAPACITY_LIMIT * WIDTH];
        private int columnCount = 1;
        private int capacity;
        private int period = 0;
        private int first = 0;
        private int size = 0;

        Profile(int capacity) {
            this.capacity = Math.max(1, Math.min(CAPACITY_LIMIT, capacity));
            columns[0] = 1;
        }

        void forget() {
            first = 0;
            size = 0;
        }

        void capture(int time, int[] registers) {
            if (size >= capacity) {
                first = (first + 1) % CAPACITY_LIMIT;
                size--;
            }
            int start = start(size);
            ring[start] = time;
            for (int k = 1; k <= columnCount; k++) {
                ring[start + k] = registers[columns[k - 1] - 1];
            }
            size++;
        }

        int at(int i, int k) {
            return ring[start(i) + k];
        }

        private int start(int i) {
            return (first + i) % CAPACITY_LIMIT * WIDTH;
        }

        void writeEntries(Row out, int from, int to) {
            int written = 0;
            out.add(Meter.ARRAY);
            out.add(written);
            for (int i = 0; i < size; i++) {
                int start = start(i);
                if (isWithin(ring[start], from, to)) {
                    out.add(Meter.STRUCTURE);
                    out.add(columnCount + 1);
                    for (int k = 0; k <= columnCount; k++) {
                        out.addTagged(k == 0 ? Meter.UNSIGNED : Meter.SIGNED, ring[start + k]);
                    }
                    written++;
                }
            }
            out.change(1, written);
        }

        /** Without its sign a bound below 0 is greater than every time. */
        private static boolean isWithin(int time, int from, int to) {
            return from >= 0 && from <= time && (to < 0 || time <= to);
        }

        void writeSetting(Row out, int a) {
            if (a == 3) {
                writeColumns(out);
            } else if (a == 4) {
                out.addTagged(Meter.UNSIGNED, period);
            } else {
                out.addTagged(Meter.UNSIGNED, a == 7 ? size : capacity);
            }
        }

        private void writeColumns(Row out) {
            out.add(Meter.ARRAY);
            out.add(columnCount);
            for (int k = 0; k < columnCount; k++) {
                out.add(Meter.SHORT_UNSIGNED);
                out.add(columns[k]);
            }
        }

        boolean takeColumns(Row request) {
            if (!hasColumns(request)) {
                return false;
            }
            columnCount = request.at(4);
            for (int k = 0; k < columnCount; k++) {
                columns[k] = request.at(6 + 2 * k);
            }
            forget();
            return true;
        }

        private static boolean hasColumns(Row request) {
            int number = request.at(4);
            if (request.at(3) != Meter.ARRAY || number < 1 || number > COLUMN_LIMIT
                || request.size != 5 + 2 * number) {
                return false;
            }
            int seen = 0;
            for (int k = 0; k < number; k++) {
                int o = request.at(6 + 2 * k);
                if (request.at(5 + 2 * k) != Meter.SHORT_UNSIGNED || !Meter.isRegister(o)
                    || (seen >> o & 1) == 1) {
                    return false;
                }
                seen |= 1 << o;
            }
            return true;
        }

        boolean takePeriod(int v) {
            if (v < 0) {
                return false;
            }
            period = v;
            return true;
        }

        boolean takeCapacity(int v) {
            if (v < 1 || v > CAPACITY_LIMIT) {
                return false;
            }
            capacity = v;
            forget();
            return true;
        }
    }
}
