/** The meter, called no more often than the document promises answers: tests of later calls would test nothing. */
final class CountedMeter {
    private static final int CALLS = 512;

    private final LoadProfileMeter meter;
    private int left = CALLS;

    CountedMeter(int secret, int capacity) {
        meter = new LoadProfileMeter(secret, capacity);
    }

    int callsLeft() {
        return left;
    }

    private LoadProfileMeter counted() {
        if (left == 0) {
            throw new AssertionError("this test makes more than " + CALLS + " calls of one object");
        }
        left--;
        return meter;
    }

    void run(int n) {
        counted().run(n);
    }

    int count(int o, int d) {
        return counted().count(o, d);
    }

    int time() {
        return counted().time();
    }

    int register(int o) {
        return counted().register(o);
    }

    int entries() {
        return counted().entries();
    }

    int entry(int i, int k) {
        return counted().entry(i, k);
    }

    int link() {
        return counted().link();
    }

    int put(int b) {
        return counted().put(b);
    }

    int putInt(int v) {
        return counted().putInt(v);
    }

    void poke(int i, int b) {
        counted().poke(i, b);
    }

    int frame(int control) {
        return counted().frame(control);
    }

    int ask() {
        return counted().ask();
    }

    void clear() {
        counted().clear();
    }

    int deliver(boolean lost) {
        return counted().deliver(lost);
    }

    int reply(int i) {
        return counted().reply(i);
    }
}
