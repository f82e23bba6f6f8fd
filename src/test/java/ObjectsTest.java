import java.util.Arrays;

/** Promise 15, the objects, their attributes and methods, and all results: a method for each sentence. */
public final class ObjectsTest {
    private static final int MAX = Integer.MAX_VALUE;
    private static final int MIN = Integer.MIN_VALUE;

    public static void main(String[] args) {
        whichObjects();
        names();
        theTime();
        valuesOfRegisters();
        unitsOfRegisters();
        theEntries();
        theColumns();
        thePeriod();
        entriesInUseAndCapacity();
        entriesFromTo();
        boundsWithoutASign();
        whatCanNotBeHad();
        gettingNoSuchObject();
        gettingNoSuchAttribute();
        gettingWithBounds();
        settingNoSuchObject();
        settingNoSuchAttribute();
        settingWithoutLeave();
        settingWhatCanNotBeSet();
        settingTimeAndPeriod();
        settingACapacity();
        settingColumns();
        settingWrongTags();
        settingWrongLengths();
        settingWrongColumns();
        wrongValuesChangeNothing();
        itIsSet();
        entriesAreGoneThen();
        entriesStay();
        actingOnNoSuchObject();
        actingByNoSuchMethod();
        actingWithoutLeave();
        actingOnTheClockWith0();
        actingIsDone();
        actingOnRegisters();
        actingOnTheProfile();
        actingOnTheClock();
        Check.end();
    }

    private static boolean isAttribute(int o, int a) {
        return a == 1 || a == 2 || a == 3 && o > 0 || o == 4 && (a == 4 || a == 7 || a == 8);
    }

    private static boolean isSettable(int o, int a) {
        return a == 2 && o < 4 || o == 4 && (a == 3 || a == 4 || a == 8);
    }

    private static boolean isMethod(int o, int m) {
        return o == 0 ? m == 3 : o == 4 ? m == 1 || m == 2 : m == 1;
    }

    private static int[] failed(int result) {
        return new int[] {196, 1, 1, result};
    }

    // ---- attributes

    private static void whichObjects() {
        Check.sentence("Terms", "OBJECTS: 0 is the clock, 1 .. 3 are the registers, 4 is the profile");
        Client c = Client.manager(7);
        c.meter.run(9);
        Check.due("attribute 2 of 0 when seconds went by", c.get(0, 2), Bytes.got(6, 0, 0, 0, 9));
        for (int o = 1; o <= 3; o++) {
            c.meter.count(o, 10 * o);
            Check.due("attribute 2 of " + o + " when it grew", c.get(o, 2), Bytes.got(5, 0, 0, 0, 10 * o));
        }
        Check.due("attribute 2 of 4", c.get(4, 2), Bytes.got(1, 0));
        c.capture();
        Check.due("attribute 2 of 4 when it captured", c.get(4, 2), entryOf(9, 10));
    }

    /** The answer with one entry of one column. */
    private static int[] entryOf(int time, int v) {
        return Bytes.got(Bytes.joined(new int[] {1, 1, 2, 2}, Bytes.tagged(6, time), Bytes.tagged(5, v)));
    }

    private static void names() {
        Check.sentence("Terms", "ATTRIBUTES of all of them: 1: 9, 2, 1, o");
        Client c = Client.reader(7);
        for (int o = 0; o <= 4; o++) {
            Check.due("attribute 1 of " + o, c.get(o, 1), Bytes.got(9, 2, 1, o));
        }
    }

    private static void theTime() {
        Check.sentence("Terms", "Of the clock: 2: 6 and four bytes, the time");
        Client c = Client.manager(7);
        for (int time : new int[] {0, 1, 255, 256, 65536, 0x71020384, MAX}) {
            c.set(0, 2, 6, time);
            Check.due("attribute 2 of the clock", c.get(0, 2), Bytes.got(Bytes.tagged(6, time)));
        }
    }

    private static void valuesOfRegisters() {
        Check.sentence("Terms", "Of a register o: 2: 5 and four bytes, its value");
        Client c = Client.reader(7);
        int[] values = {0, 0x01FF00FE, -1, MAX, MIN};
        int before = 0;
        for (int v : values) {
            for (int o = 1; o <= 3; o++) {
                c.meter.count(o, v - before);
                Check.due("attribute 2 of " + o, c.get(o, 2), Bytes.got(Bytes.tagged(5, v)));
            }
            before = v;
        }
        c.meter.count(2, 7);
        Check.due("attribute 2 of 1", c.get(1, 2), Bytes.got(Bytes.tagged(5, MIN)));
        Check.due("attribute 2 of 2", c.get(2, 2), Bytes.got(Bytes.tagged(5, MIN + 7)));
        Check.due("attribute 2 of 3", c.get(3, 2), Bytes.got(Bytes.tagged(5, MIN)));
    }

    private static void unitsOfRegisters() {
        Check.sentence("Terms", "3: 2, 2, 15, (o - 2) & 255, 22, 27 + o");
        Client c = Client.reader(7);
        Check.due("attribute 3 of 1", c.get(1, 3), Bytes.got(2, 2, 15, 255, 22, 28));
        Check.due("attribute 3 of 2", c.get(2, 3), Bytes.got(2, 2, 15, 0, 22, 29));
        Check.due("attribute 3 of 3", c.get(3, 3), Bytes.got(2, 2, 15, 1, 22, 30));
    }

    private static void theEntries() {
        Check.sentence("Terms", "Of the profile: 2: 1, the number of entries, and for each of them, in order, 2, the number of columns plus 1, then 6 and four bytes, its time, then for each column 5 and four bytes");
        Client c = Client.manager(2);
        Check.due("no entries", c.get(4, 2), Bytes.got(1, 0));
        c.set(4, 3, Bytes.columns(2, 1));
        c.meter.run(258);
        c.meter.count(1, 3);
        c.meter.count(2, -1);
        c.capture();
        int[] first = {2, 3, 6, 0, 0, 1, 2, 5, 255, 255, 255, 255, 5, 0, 0, 0, 3};
        Check.due("an entry", c.get(4, 2), Bytes.got(Bytes.joined(new int[] {1, 1}, first)));
        c.meter.run(1);
        c.meter.count(2, 3);
        c.capture();
        int[] second = {2, 3, 6, 0, 0, 1, 3, 5, 0, 0, 0, 2, 5, 0, 0, 0, 3};
        Check.due("two entries", c.get(4, 2), Bytes.got(Bytes.joined(new int[] {1, 2}, first, second)));
        c.capture();
        Check.due("the first one gone", c.get(4, 2), Bytes.got(Bytes.joined(new int[] {1, 2}, second, second)));
        c.set(4, 3, Bytes.columns(3));
        c.capture();
        Check.due("an entry of one column", c.get(4, 2), Bytes.got(1, 1, 2, 2, 6, 0, 0, 1, 3, 5, 0, 0, 0, 0));
    }

    private static void theColumns() {
        Check.sentence("Terms", "3: 1, the number of columns, and 17, o for each");
        Client c = Client.manager(2);
        Check.due("columns at first", c.get(4, 3), Bytes.got(1, 1, 17, 1));
        c.set(4, 3, Bytes.columns(3, 1));
        Check.due("two columns", c.get(4, 3), Bytes.got(1, 2, 17, 3, 17, 1));
        c.set(4, 3, Bytes.columns(2, 3, 1));
        Check.due("three columns", c.get(4, 3), Bytes.got(1, 3, 17, 2, 17, 3, 17, 1));
    }

    private static void thePeriod() {
        Check.sentence("Terms", "4: 6 and four bytes, the period");
        Client c = Client.manager(2);
        for (int period : new int[] {0, 1, 0x7F020384, MAX}) {
            c.set(4, 4, 6, period);
            Check.due("attribute 4 of the profile", c.get(4, 4), Bytes.got(Bytes.tagged(6, period)));
        }
    }

    private static void entriesInUseAndCapacity() {
        Check.sentence("Terms", "7 and 8: 6 and four bytes, the number of entries, and the capacity");
        Client c = Client.manager(3);
        for (int entries = 0; entries <= 5; entries++) {
            Check.due("attribute 7", c.get(4, 7), Bytes.got(6, 0, 0, 0, Math.min(3, entries)));
            Check.due("attribute 8", c.get(4, 8), Bytes.got(6, 0, 0, 0, 3));
            c.capture();
        }
    }

    // ---- some entries

    /** The answer with the entries of these times, that have one column that is 0. */
    private static int[] entriesAt(int... times) {
        int[] value = {1, times.length};
        for (int time : times) {
            value = Bytes.joined(value, new int[] {2, 2}, Bytes.tagged(6, time), Bytes.tagged(5, 0));
        }
        return Bytes.got(value);
    }

    private static void entriesFromTo() {
        Check.sentence("Terms", "of the entries those with times from f to t alone");
        Client c = Client.manager(3);
        Check.due("of no entries", c.getSome(4, 2, 0, 99), entriesAt());
        c.set(4, 4, 6, 10);
        c.meter.run(30);
        Check.due("0 to 99", c.getSome(4, 2, 0, 99), entriesAt(10, 20, 30));
        Check.due("10 to 30", c.getSome(4, 2, 10, 30), entriesAt(10, 20, 30));
        Check.due("11 to 30", c.getSome(4, 2, 11, 30), entriesAt(20, 30));
        Check.due("10 to 29", c.getSome(4, 2, 10, 29), entriesAt(10, 20));
        Check.due("9 to 11", c.getSome(4, 2, 9, 11), entriesAt(10));
        Check.due("20 to 20", c.getSome(4, 2, 20, 20), entriesAt(20));
        Check.due("21 to 29", c.getSome(4, 2, 21, 29), entriesAt());
        Check.due("30 to 10", c.getSome(4, 2, 30, 10), entriesAt());
        Check.due("21 to 20", c.getSome(4, 2, 21, 20), entriesAt());
        Check.due("0 to 9", c.getSome(4, 2, 0, 9), entriesAt());
        Check.due("31 to 99", c.getSome(4, 2, 31, 99), entriesAt());
        Check.due("all of them stay", c.get(4, 2), entriesAt(10, 20, 30));
    }

    private static void boundsWithoutASign() {
        Check.sentence("Terms", "(as numbers without a sign)");
        Client c = Client.manager(3);
        c.capture();
        c.set(0, 2, 6, MAX);
        c.capture();
        c.set(0, 2, 6, 5);
        c.capture();
        Check.due("all of them", c.get(4, 2), entriesAt(0, MAX, 5));
        Check.due("0 to 2^32 - 1", c.getSome(4, 2, 0, -1), entriesAt(0, MAX, 5));
        Check.due("0 to 2^31", c.getSome(4, 2, 0, MIN), entriesAt(0, MAX, 5));
        Check.due("0 to 2^31 - 1", c.getSome(4, 2, 0, MAX), entriesAt(0, MAX, 5));
        Check.due("0 to 2^31 - 2", c.getSome(4, 2, 0, MAX - 1), entriesAt(0, 5));
        Check.due("2^31 - 1 to 2^31 - 1", c.getSome(4, 2, MAX, MAX), entriesAt(MAX));
        Check.due("2^31 - 1 to 2^31", c.getSome(4, 2, MAX, MIN), entriesAt(MAX));
        Check.due("1 to 2^32 - 1", c.getSome(4, 2, 1, -1), entriesAt(MAX, 5));
        Check.due("2^31 to 2^32 - 1", c.getSome(4, 2, MIN, -1), entriesAt());
        Check.due("2^31 to 2^31 - 1", c.getSome(4, 2, MIN, MAX), entriesAt());
        Check.due("2^32 - 1 to 2^32 - 1", c.getSome(4, 2, -1, -1), entriesAt());
        Check.due("2^32 - 1 to 5", c.getSome(4, 2, -1, 5), entriesAt());
        Check.due("0 to 0", c.getSome(4, 2, 0, 0), entriesAt(0));
    }

    // ---- results of getting

    private static void whatCanNotBeHad() {
        Check.sentence("Terms", "If it can not be had: 196, 1, 1 and the RESULT");
        Client c = Client.reader(1);
        Check.due("no such object", c.send(50, 192, 1, 5, 1, 0), Bytes.frame(82, 196, 1, 1, 4));
        Check.due("no such attribute", c.send(84, 192, 1, 0, 3, 0), Bytes.frame(116, 196, 1, 1, 9));
        Check.due("some of what has no parts", c.send(118, 192, 1, 0, 2, 1, 0, 0, 0, 0, 0, 0, 0, 9),
            Bytes.frame(150, 196, 1, 1, 13));
        Check.due("what can be had then", c.get(0, 2), Bytes.got(6, 0, 0, 0, 0));
    }

    private static void gettingNoSuchObject() {
        Check.sentence("Terms", "RESULTS of getting: 4: there is no such object");
        for (int o : new int[] {5, 6, 127, 128, 255}) {
            Client c = Client.reader(1);
            for (int a : new int[] {0, 1, 2, 9}) {
                Check.due("get of " + o + ", " + a, c.get(o, a), failed(4));
                Check.due("get of some of " + o + ", " + a, c.getSome(o, a, 0, 9), failed(4));
            }
        }
        Client c = Client.reader(1);
        Check.due("get of 4, 1", c.get(4, 1), Bytes.got(9, 2, 1, 4));
        Check.due("get of 0, 1", c.get(0, 1), Bytes.got(9, 2, 1, 0));
    }

    private static void gettingNoSuchAttribute() {
        Check.sentence("Terms", "9: no such attribute");
        for (int o = 0; o <= 4; o++) {
            Client c = Client.reader(1);
            for (int a : new int[] {0, 1, 2, 3, 4, 5, 6, 7, 8, 9, 10, 255}) {
                if (isAttribute(o, a)) {
                    Check.due("get of " + o + ", " + a, Arrays.copyOf(c.get(o, a), 3), 196, 1, 0);
                } else {
                    Check.due("get of " + o + ", " + a, c.get(o, a), failed(9));
                }
            }
        }
    }

    private static void gettingWithBounds() {
        Check.sentence("Terms", "13: f and t are given, but it is not attribute 2 of the profile");
        for (int o = 0; o <= 4; o++) {
            Client c = Client.reader(1);
            for (int a = 0; a <= 9; a++) {
                if (o == 4 && a == 2) {
                    Check.due("get of some entries", c.getSome(o, a, 0, 9), Bytes.got(1, 0));
                } else {
                    Check.due("get of some of " + o + ", " + a, c.getSome(o, a, 0, 9), failed(isAttribute(o, a) ? 13 : 9));
                }
            }
        }
    }

    // ---- results of setting

    private static void settingNoSuchObject() {
        Check.sentence("Terms", "Of setting, the first that holds: 4");
        for (Client c : new Client[] {Client.reader(1), Client.manager(1)}) {
            for (int o : new int[] {5, 6, 255}) {
                Check.due("set of " + o + ", 2", c.set(o, 2, 5, 1), 4);
                Check.due("set of " + o + ", 9", c.set(o, 9, new int[0]), 4);
            }
        }
        Check.due("set of 4, 4", Client.manager(1).set(4, 4, 6, 1), 0);
        Check.due("set of 0, 2", Client.manager(1).set(0, 2, 6, 1), 0);
    }

    private static void settingNoSuchAttribute() {
        Check.sentence("Terms", "the first that holds: 4; 9");
        for (int o = 0; o <= 4; o++) {
            for (Client c : new Client[] {Client.reader(1), Client.manager(1)}) {
                for (int a : new int[] {0, 1, 2, 3, 4, 5, 6, 7, 8, 9, 255}) {
                    int result = c.set(o, a, new int[] {0});
                    Check.due("set of " + o + ", " + a, result == 9 ? 1 : 0, isAttribute(o, a) ? 0 : 1);
                }
            }
        }
    }

    private static void settingWithoutLeave() {
        Check.sentence("Terms", "3: the association is not 2");
        Client c = Client.reader(2);
        for (int o = 0; o <= 4; o++) {
            for (int a = 1; a <= 8; a++) {
                if (isAttribute(o, a)) {
                    Check.due("a reader sets " + o + ", " + a, c.set(o, a, new int[] {0}), 3);
                }
            }
        }
        Check.due("a reader sets the time", c.set(0, 2, 6, 7), 3);
        Check.due("a reader sets a register", c.set(1, 2, 5, 7), 3);
        Check.due("a reader sets the period", c.set(4, 4, 6, 7), 3);
        Check.due("a reader sets the capacity", c.set(4, 8, 6, 7), 3);
        Check.due("a reader sets columns", c.set(4, 3, Bytes.columns(2)), 3);
        Check.due("time()", c.meter.time(), 0);
        Check.due("register(1)", c.meter.register(1), 0);
        Check.due("period", c.get(4, 4), Bytes.got(6, 0, 0, 0, 0));
        Check.due("capacity", c.get(4, 8), Bytes.got(6, 0, 0, 0, 2));
        Check.due("columns", c.get(4, 3), Bytes.got(1, 1, 17, 1));
    }

    private static void settingWhatCanNotBeSet() {
        Check.sentence("Terms", "or it is none of attribute 2 of clock or registers, 3, 4 or 8 of the profile");
        for (int o = 0; o <= 4; o++) {
            Client c = Client.manager(2);
            for (int a = 1; a <= 8; a++) {
                if (isAttribute(o, a)) {
                    Check.due("a manager sets " + o + ", " + a, c.set(o, a, new int[] {0}), isSettable(o, a) ? 12 : 3);
                }
            }
        }
        Client c = Client.manager(2);
        Check.due("set a name", c.set(0, 1, new int[] {9, 2, 1, 0}), 3);
        Check.due("set a unit", c.set(1, 3, new int[] {2, 2, 15, 255, 22, 28}), 3);
        Check.due("set the entries", c.set(4, 2, new int[] {1, 0}), 3);
        Check.due("set the number of entries", c.set(4, 7, 6, 0), 3);
    }

    private static void settingTimeAndPeriod() {
        Check.sentence("Terms", "a time or period of at most 2^31 - 1");
        Client c = Client.manager(2);
        for (int v : new int[] {MIN, MIN + 1, -2, -1}) {
            Check.due("set the time to " + v, c.set(0, 2, 6, v), 12);
            Check.due("set the period to " + v, c.set(4, 4, 6, v), 12);
        }
        Check.due("time()", c.meter.time(), 0);
        Check.due("period", c.get(4, 4), Bytes.got(6, 0, 0, 0, 0));
        for (int v : new int[] {MAX, MAX - 1, 0, 1, 0x01020304}) {
            Check.due("set the time to " + v, c.set(0, 2, 6, v), 0);
            Check.due("time()", c.meter.time(), v);
            Check.due("set the period to " + v, c.set(4, 4, 6, v), 0);
            Check.due("period", c.get(4, 4), Bytes.got(Bytes.tagged(6, v)));
        }
    }

    private static void settingACapacity() {
        Check.sentence("Terms", "a capacity of 1 .. 12");
        Client c = Client.manager(2);
        for (int v : new int[] {0, 13, -1, 256, 257, 0x00010001, 0x01000001, 0x0C000000, MAX, MIN, MIN + 1}) {
            Check.due("set the capacity to " + v, c.set(4, 8, 6, v), 12);
        }
        Check.due("capacity", c.get(4, 8), Bytes.got(6, 0, 0, 0, 2));
        for (int v = 1; v <= 12; v++) {
            Check.due("set the capacity to " + v, c.set(4, 8, 6, v), 0);
            Check.due("capacity", c.get(4, 8), Bytes.got(6, 0, 0, 0, v));
        }
        capacityHolds();
    }

    private static void capacityHolds() {
        for (int[] pair : new int[][] {{12, 1}, {1, 12}, {5, 6}, {6, 5}}) {
            Client c = Client.manager(pair[0]);
            c.set(4, 4, 6, 1);
            c.meter.run(20);
            Check.due("entries()", c.meter.entries(), pair[0]);
            c.set(4, 8, 6, pair[1]);
            c.meter.run(pair[1]);
            Check.due("entries() when full", c.meter.entries(), pair[1]);
            Check.due("the first of them", c.meter.entry(0, 0), 21);
            c.meter.run(1);
            Check.due("entries() of one more", c.meter.entries(), pair[1]);
            Check.due("the first of them then", c.meter.entry(0, 0), 22);
            Check.due("the last of them then", c.meter.entry(pair[1] - 1, 0), 21 + pair[1]);
        }
    }

    private static void settingColumns() {
        Check.sentence("Terms", "COLUMNS (one to three different registers in any order");
        int[][] orders = {{1}, {2}, {3}, {1, 2}, {2, 1}, {1, 3}, {3, 1}, {2, 3}, {3, 2}, {1, 2, 3}, {1, 3, 2},
            {2, 1, 3}, {2, 3, 1}, {3, 1, 2}, {3, 2, 1}};
        for (int[] order : orders) {
            Client c = Client.manager(2);
            int[] value = Bytes.columns(order);
            Check.due("set columns " + Arrays.toString(order), c.set(4, 3, value), 0);
            Check.due("columns", c.get(4, 3), Bytes.got(value));
        }
    }

    private static void settingWrongTags() {
        Check.sentence("Terms", "12: the bytes are not such a value (as above");
        int[][] targets = {{0, 2, 6}, {1, 2, 5}, {2, 2, 5}, {3, 2, 5}, {4, 4, 6}, {4, 8, 6}};
        for (int[] target : targets) {
            Client c = Client.manager(2);
            for (int tag : new int[] {0, 1, 2, 4, 5, 6, 7, 9, 17, 255}) {
                Check.due("set " + target[0] + ", " + target[1] + " with tag " + tag,
                    c.set(target[0], target[1], tag, 3), tag == target[2] ? 0 : 12);
            }
        }
    }

    private static void settingWrongLengths() {
        Check.sentence("Terms", "12: the bytes are not such a value");
        int[][] targets = {{0, 2, 6}, {1, 2, 5}, {2, 2, 5}, {3, 2, 5}, {4, 4, 6}, {4, 8, 6}};
        for (int[] target : targets) {
            Client c = Client.manager(2);
            for (int size = 0; size <= 10; size++) {
                int[] value = Arrays.copyOf(new int[] {target[2], 0, 0, 0, 3, 0, 0, 0, 0, 0}, size);
                Check.due("set " + target[0] + ", " + target[1] + " to " + size + " bytes",
                    c.set(target[0], target[1], value), size == 5 ? 0 : 12);
            }
        }
    }

    private static void settingWrongColumns() {
        Check.sentence("Terms", "columns as said");
        int[][] wrong = {{}, {1}, {1, 0}, {1, 1}, {1, 1, 17}, {0, 1, 17, 2}, {2, 1, 17, 2}, {1, 1, 16, 2}, {1, 1, 18, 2},
            {1, 1, 17, 2, 0}, {1, 2, 17, 2}, {1, 0, 17, 2}, {1, 1, 17, 2, 17, 3}, {1, 2, 17, 2, 18, 3}, {1, 255},
            {1, 2, 17, 2, 17}, {1, 3, 17, 1, 17, 2, 17}, {1, 3, 17, 1, 17, 2}, {1, 2, 17, 1, 17, 2, 17, 3},
            {1, 2, 16, 1, 17, 2}, {1, 3, 17, 1, 17, 2, 5, 3}, {6, 0, 0, 0, 1},
            Bytes.columns(0), Bytes.columns(4), Bytes.columns(255), Bytes.columns(33), Bytes.columns(1, 1),
            Bytes.columns(2, 2), Bytes.columns(3, 3), Bytes.columns(1, 4), Bytes.columns(4, 1), Bytes.columns(1, 0),
            Bytes.columns(0, 1), Bytes.columns(1, 33), Bytes.columns(1, 2, 1), Bytes.columns(2, 1, 1),
            Bytes.columns(2, 2, 1), Bytes.columns(3, 3, 3), Bytes.columns(1, 2, 4), Bytes.columns(1, 2, 0),
            Bytes.columns(1, 2, 3, 1), Bytes.columns(1, 2, 3, 4), Bytes.columns(1, 2, 3, 0), Bytes.columns()};
        for (int[] value : wrong) {
            Client c = Client.manager(2);
            c.set(4, 3, Bytes.columns(3, 2));
            c.capture();
            Check.due("set columns to " + Arrays.toString(value), c.set(4, 3, value), 12);
            Check.due("the columns are as they were", c.get(4, 3), Bytes.got(1, 2, 17, 3, 17, 2));
            Check.due("the entries too", c.meter.entries(), 1);
        }
    }

    private static void wrongValuesChangeNothing() {
        Check.sentence("Terms", "0: it is set");
        Client c = Client.manager(2);
        c.set(0, 2, 6, 5);
        c.meter.count(1, 9);
        c.set(4, 4, 6, 77);
        c.capture();
        int[][] targets = {{0, 2, 5}, {1, 2, 6}, {4, 4, 5}, {4, 8, 5}};
        for (int[] target : targets) {
            Check.due("set with a wrong tag", c.set(target[0], target[1], target[2], 3), 12);
            Check.due("set to too few bytes", c.set(target[0], target[1], new int[] {11 - target[2], 0, 0, 3}), 12);
            Check.due("set to too many bytes", c.set(target[0], target[1], new int[] {11 - target[2], 0, 0, 0, 3, 0}), 12);
        }
        Check.due("time()", c.meter.time(), 5);
        Check.due("register(1)", c.meter.register(1), 9);
        Check.due("entries()", c.meter.entries(), 1);
        Check.due("period", c.get(4, 4), Bytes.got(6, 0, 0, 0, 77));
        Check.due("capacity", c.get(4, 8), Bytes.got(6, 0, 0, 0, 2));
    }

    private static void itIsSet() {
        Check.sentence("Terms", "0: it is set");
        Client c = Client.manager(2);
        for (int v : new int[] {0, 1, -1, MIN, MAX}) {
            for (int o = 1; o <= 3; o++) {
                Check.due("set register " + o + " to " + v, c.set(o, 2, 5, v), 0);
                Check.due("register(" + o + ")", c.meter.register(o), v);
            }
            c.set(2, 2, 5, 44);
            Check.due("register(1) stays", c.meter.register(1), v);
            Check.due("register(3) stays", c.meter.register(3), v);
        }
        c.set(4, 4, 6, 10);
        Check.due("set the time to a multiple of the period", c.set(0, 2, 6, 20), 0);
        Check.due("captures nothing", c.meter.entries(), 0);
    }

    private static void entriesAreGoneThen() {
        Check.sentence("Terms", "(for columns and capacity all entries are gone then)");
        Client c = Client.manager(3);
        for (int i = 0; i < 5; i++) {
            c.capture();
        }
        c.set(4, 8, 6, 3);
        Check.due("entries() with the same capacity", c.meter.entries(), 0);
        c.capture();
        c.set(4, 3, Bytes.columns(1));
        Check.due("entries() with the same columns", c.meter.entries(), 0);
        Check.refused("entry(0, 0)", IndexOutOfBoundsException.class, () -> c.meter.entry(0, 0));
        c.capture();
        c.set(4, 8, 6, 12);
        Check.due("entries() with a greater capacity", c.meter.entries(), 0);
        c.capture();
        c.set(4, 3, Bytes.columns(1, 2));
        Check.due("entries() with other columns", c.meter.entries(), 0);
        c.meter.run(7);
        c.capture();
        Check.due("entries() anew", c.meter.entries(), 1);
        Check.due("the first of them", c.meter.entry(0, 0), 7);
    }

    private static void entriesStay() {
        Check.sentence("Terms", "for columns and capacity all entries are gone then");
        Client c = Client.manager(3);
        for (int i = 0; i < 2; i++) {
            c.capture();
        }
        c.set(4, 4, 6, 9);
        Check.due("entries() when the period was set", c.meter.entries(), 2);
        c.set(0, 2, 6, 9);
        Check.due("entries() when the time was set", c.meter.entries(), 2);
        c.set(1, 2, 5, 9);
        Check.due("entries() when a register was set", c.meter.entries(), 2);
        Check.due("an entry's time", c.meter.entry(1, 0), 0);
        Check.due("an entry's register", c.meter.entry(1, 1), 0);
        c.set(4, 8, 6, 13);
        Check.due("entries() when the capacity was not set", c.meter.entries(), 2);
        c.set(4, 3, Bytes.columns(4));
        Check.due("entries() when the columns were not set", c.meter.entries(), 2);
    }

    // ---- results of acting

    private static void actingOnNoSuchObject() {
        Check.sentence("Terms", "Of acting: 4");
        for (Client c : new Client[] {Client.reader(1), Client.manager(1)}) {
            for (int o : new int[] {5, 6, 255}) {
                for (int m = 0; m <= 3; m++) {
                    Check.due("act on " + o + ", " + m, c.act(o, m, 0), 4);
                }
            }
        }
    }

    private static void actingByNoSuchMethod() {
        Check.sentence("Terms", "9: it is none of method 1 of a register, 1 or 2 of the profile, 3 of the clock");
        for (int o = 0; o <= 4; o++) {
            Client reader = Client.reader(1);
            Client manager = Client.manager(1);
            for (int m : new int[] {0, 1, 2, 3, 4, 5, 255}) {
                Check.due("a reader acts on " + o + ", " + m, reader.act(o, m, 1), isMethod(o, m) ? 3 : 9);
                Check.due("a manager acts on " + o + ", " + m, manager.act(o, m, 1), isMethod(o, m) ? 0 : 9);
            }
        }
    }

    private static void actingWithoutLeave() {
        Check.sentence("Terms", "3 of the clock; 3: the association is not 2");
        Client c = Client.reader(2);
        c.meter.count(1, 5);
        c.meter.run(7);
        Check.due("a reader acts on a register", c.act(1, 1, 0), 3);
        Check.due("a reader captures", c.act(4, 2, 0), 3);
        Check.due("a reader empties", c.act(4, 1, 0), 3);
        Check.due("a reader acts on the clock", c.act(0, 3, 5), 3);
        Check.due("a reader acts on the clock with 0", c.act(0, 3, 0), 3);
        Check.due("register(1)", c.meter.register(1), 5);
        Check.due("entries()", c.meter.entries(), 0);
        Check.due("time()", c.meter.time(), 7);
    }

    private static void actingOnTheClockWith0() {
        Check.sentence("Terms", "13: for the clock p is 0");
        Client c = Client.manager(2);
        c.set(0, 2, 6, 15);
        Check.due("the clock with 0", c.act(0, 3, 0), 13);
        Check.due("time()", c.meter.time(), 15);
        Check.due("the clock with 1", c.act(0, 3, 1), 0);
        Check.due("time()", c.meter.time(), 15);
        Check.due("a register with 0", c.act(1, 1, 0), 0);
        Check.due("the profile with 0", c.act(4, 2, 0), 0);
        Check.due("the profile emptied with 0", c.act(4, 1, 0), 0);
    }

    private static void actingIsDone() {
        Check.sentence("Terms", "13: for the clock p is 0; 0: done");
        for (int p : new int[] {1, 2, 128, 255}) {
            for (int[] method : new int[][] {{1, 1}, {2, 1}, {3, 1}, {4, 1}, {4, 2}, {0, 3}}) {
                Client c = Client.manager(1);
                c.put(195, method[0], method[1], p);
                c.meter.ask();
                Check.due("act on " + method[0] + ", " + method[1] + " with " + p, c.deliver(), Bytes.frame(82, 199, 0));
            }
        }
    }

    private static void actingOnRegisters() {
        Check.sentence("Terms", "Method 1 of a register: it becomes 0");
        for (int o = 1; o <= 3; o++) {
            Client c = Client.manager(2);
            for (int i = 1; i <= 3; i++) {
                c.meter.count(i, 10 * i);
            }
            Check.due("act on " + o, c.act(o, 1, 255), 0);
            for (int i = 1; i <= 3; i++) {
                Check.due("register(" + i + ")", c.meter.register(i), i == o ? 0 : 10 * i);
            }
            Check.due("act on it once more", c.act(o, 1, 0), 0);
            Check.due("register(" + o + ")", c.meter.register(o), 0);
        }
    }

    private static void actingOnTheProfile() {
        Check.sentence("Terms", "Of the profile 1: all entries are gone; 2: it captures");
        Client c = Client.manager(2);
        Check.due("empty what is empty", c.act(4, 1, 0), 0);
        c.meter.run(7);
        c.meter.count(1, 3);
        for (int i = 1; i <= 3; i++) {
            Check.due("capture", c.act(4, 2, 255), 0);
            Check.due("entries()", c.meter.entries(), Math.min(2, i));
        }
        Check.due("its time", c.meter.entry(1, 0), 7);
        Check.due("its register", c.meter.entry(1, 1), 3);
        Check.due("empty", c.act(4, 1, 255), 0);
        Check.due("entries() then", c.meter.entries(), 0);
        Check.refused("entry(0, 0) then", IndexOutOfBoundsException.class, () -> c.meter.entry(0, 0));
        Check.due("the columns stay", c.get(4, 3), Bytes.got(1, 1, 17, 1));
        Check.due("the capacity stays", c.get(4, 8), Bytes.got(6, 0, 0, 0, 2));
        c.capture();
        Check.due("entries() anew", c.meter.entries(), 1);
    }

    private static void actingOnTheClock() {
        Check.sentence("Terms", "Of the clock 3: the time becomes the greatest multiple of p that is not greater");
        int[][] rows = {{0, 7, 0}, {6, 7, 0}, {7, 7, 7}, {8, 7, 7}, {13, 7, 7}, {14, 7, 14}, {14, 1, 14}, {254, 255, 0},
            {255, 255, 255}, {256, 255, 255}, {999, 255, 765}, {MAX, 255, MAX - 127}, {MAX, 2, MAX - 1}, {MAX, 1, MAX}};
        Client c = Client.manager(2);
        c.set(4, 4, 6, 7);
        for (int[] row : rows) {
            c.set(0, 2, 6, row[0]);
            Check.due("round " + row[0] + " by " + row[1], c.act(0, 3, row[1]), 0);
            Check.due("time() then", c.meter.time(), row[2]);
        }
        Check.due("rounding captures nothing", c.meter.entries(), 0);
    }
}
