/** Puts payloads on a meter's line, and takes what it replies. */
final class Client {
    static final int SECRET = 0x12345678;

    final CountedMeter meter;

    Client(int capacity) {
        meter = new CountedMeter(SECRET, capacity);
    }

    static Client connected(int capacity) {
        Client client = new Client(capacity);
        client.connect();
        return client;
    }

    static Client reader(int capacity) {
        Client client = connected(capacity);
        client.tell(96, 1, 0, 0, 0, 0);
        return client;
    }

    static Client manager(int capacity) {
        Client client = connected(capacity);
        client.tell(96, 2, 0x12, 0x34, 0x56, 0x78);
        return client;
    }

    /** Connected, and so many requests were answered. */
    static Client atStep(int steps) {
        Client client = connected(1);
        for (int i = 0; i < steps; i++) {
            client.tell(0);
        }
        return client;
    }

    void connect() {
        meter.frame(147);
        meter.deliver(false);
    }

    void put(int... bytes) {
        for (int b : bytes) {
            meter.put(b);
        }
    }

    /** The whole reply to a frame with this control and payload. */
    int[] send(int control, int... payload) {
        put(payload);
        meter.frame(control);
        return deliver();
    }

    /** Of the reply the control alone; -1 when nothing was replied. */
    int controlFor(int control, int... payload) {
        put(payload);
        meter.frame(control);
        return meter.deliver(false) == 0 ? -1 : meter.reply(3);
    }

    /** What the asker's numbers bring: the control of the reply. */
    int controlForAsking(int... payload) {
        put(payload);
        meter.ask();
        return meter.deliver(false) == 0 ? -1 : meter.reply(3);
    }

    /** The whole reply to what is on the line. */
    int[] deliver() {
        int[] reply = new int[meter.deliver(false)];
        for (int i = 0; i < reply.length; i++) {
            reply[i] = meter.reply(i);
        }
        return reply;
    }

    /** The answer to this payload, without the frame round it; empty when the reply has none. */
    int[] ask(int... payload) {
        put(payload);
        return askForLine();
    }

    /** As ask, of what is on the line. */
    int[] askForLine() {
        meter.ask();
        int[] answer = new int[Math.max(0, meter.deliver(false) - 9)];
        for (int i = 0; i < answer.length; i++) {
            answer[i] = meter.reply(6 + i);
        }
        return answer;
    }

    /** As ask, but nobody looks at the answer. */
    void tell(int... payload) {
        put(payload);
        meter.ask();
        meter.deliver(false);
    }

    void askInVain(int... payload) {
        put(payload);
        meter.ask();
        meter.deliver(true);
    }

    int association() {
        return meter.link() >> 2 & 3;
    }

    int[] get(int o, int a) {
        return ask(192, 1, o, a, 0);
    }

    int[] getSome(int o, int a, int from, int to) {
        put(192, 1, o, a, 1);
        meter.putInt(from);
        meter.putInt(to);
        return askForLine();
    }

    int[] nextBlock(int k) {
        return ask(192, 2, k);
    }

    /** The result of setting to a tag and four bytes. */
    int set(int o, int a, int tag, int v) {
        put(193, o, a, tag);
        meter.putInt(v);
        return result(197, askForLine());
    }

    int set(int o, int a, int[] value) {
        put(193, o, a);
        put(value);
        return result(197, askForLine());
    }

    int act(int o, int m, int p) {
        return result(199, ask(195, o, m, p));
    }

    void capture() {
        tell(195, 4, 2, 0);
    }

    /** -1 when the answer has not this form. */
    private static int result(int first, int[] answer) {
        return answer.length == 2 && answer[0] == first ? answer[1] : -1;
    }
}
