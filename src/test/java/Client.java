/** Puts payloads on a meter's line, and takes what it replies. */
final class Client {
    static final int SECRET = 0x12345678;

    final LoadProfileMeter meter;

    Client(int capacity) {
        meter = new LoadProfileMeter(SECRET, capacity);
    }

    static Client connected(int capacity) {
        Client client = new Client(capacity);
        client.send(147);
        return client;
    }

    static Client reader(int capacity) {
        Client client = connected(capacity);
        client.ask(96, 1, 0, 0, 0, 0);
        return client;
    }

    static Client manager(int capacity) {
        Client client = connected(capacity);
        client.ask(96, 2, 0x12, 0x34, 0x56, 0x78);
        return client;
    }

    void put(int... bytes) {
        for (int b : bytes) {
            meter.put(b);
        }
    }

    /** The whole reply to a frame with this control and payload. */
    int[] send(int control, int... payload) {
        put(payload);
        meter.frame(control);
        return deliver();
    }

    int[] deliver() {
        return reply(meter.deliver(false));
    }

    int[] reply(int size) {
        int[] reply = new int[size];
        for (int i = 0; i < size; i++) {
            reply[i] = meter.reply(i);
        }
        return reply;
    }

    /** The answer to this payload, without the frame round it. */
    int[] ask(int... payload) {
        put(payload);
        meter.ask();
        return payloadOf(deliver());
    }

    void askInVain(int... payload) {
        put(payload);
        meter.ask();
        meter.deliver(true);
    }

    static int[] payloadOf(int[] frame) {
        if (frame.length < 10) {
            return new int[0];
        }
        return java.util.Arrays.copyOfRange(frame, 6, frame.length - 3);
    }

    /** -1 when nothing was replied. */
    static int controlOf(int[] frame) {
        return frame.length < 7 ? -1 : frame[3];
    }

    int[] get(int o, int a) {
        return ask(192, 1, o, a, 0);
    }

    /** The result of setting; the value is a tag and four bytes. */
    int set(int o, int a, int tag, int v) {
        return set(o, a, new int[] {tag, v >>> 24, v >>> 16 & 255, v >>> 8 & 255, v & 255});
    }

    int set(int o, int a, int[] value) {
        int[] payload = new int[3 + value.length];
        payload[0] = 193;
        payload[1] = o;
        payload[2] = a;
        System.arraycopy(value, 0, payload, 3, value.length);
        return result(197, ask(payload));
    }

    int act(int o, int m, int p) {
        return result(199, ask(195, o, m, p));
    }

    /** -1 when the answer has not this form. */
    private static int result(int first, int[] answer) {
        return answer.length == 2 && answer[0] == first ? answer[1] : -1;
    }
}
