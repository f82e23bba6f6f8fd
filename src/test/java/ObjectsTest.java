import java.util.ArrayList;
import java.util.Arrays;
import java.util.List;

/** Promise 15 once more: the objects, their values, the results, and long answers. */
public final class ObjectsTest {
    public static void main(String[] args) {
        gettingAttributes();
        gettingWhatIsNot();
        gettingEntries();
        gettingSomeEntries();
        settingNumbers();
        settingWrongNumbers();
        settingColumns();
        settingWrongColumns();
        settingEmptiesTheProfile();
        settingWithoutLeave();
        acting();
        actingWithoutLeave();
        roundingTheTime();
        blocks();
        blocksOfFortyBytes();
        blocksOutOfOrder();
        aLongValueStaysAsItWas();
        aLongValueEnds();
        Check.end();
    }

    private static void gettingAttributes() {
        Client c = Client.manager(7);
        c.set(0, 2, 6, 0x71020384);
        c.meter.count(1, 0x01FF00FE);
        c.meter.count(2, -2);
        c.set(4, 4, 6, 0x7F000001);
        for (int o = 0; o <= 4; o++) {
            Check.due("name of " + o, c.get(o, 1), 196, 1, 0, 9, 2, 1, o);
        }
        Check.due("the time", c.get(0, 2), 196, 1, 0, 6, 0x71, 2, 3, 0x84);
        Check.due("register 1", c.get(1, 2), 196, 1, 0, 5, 1, 255, 0, 254);
        Check.due("register 2", c.get(2, 2), 196, 1, 0, 5, 255, 255, 255, 254);
        Check.due("register 3", c.get(3, 2), 196, 1, 0, 5, 0, 0, 0, 0);
        Check.due("unit of 1", c.get(1, 3), 196, 1, 0, 2, 2, 15, 255, 22, 28);
        Check.due("unit of 2", c.get(2, 3), 196, 1, 0, 2, 2, 15, 0, 22, 29);
        Check.due("unit of 3", c.get(3, 3), 196, 1, 0, 2, 2, 15, 1, 22, 30);
        Check.due("no entries", c.get(4, 2), 196, 1, 0, 1, 0);
        Check.due("columns", c.get(4, 3), 196, 1, 0, 1, 1, 17, 1);
        Check.due("period", c.get(4, 4), 196, 1, 0, 6, 0x7F, 0, 0, 1);
        Check.due("number of entries", c.get(4, 7), 196, 1, 0, 6, 0, 0, 0, 0);
        Check.due("capacity", c.get(4, 8), 196, 1, 0, 6, 0, 0, 0, 7);
        c.act(4, 2, 0);
        c.act(4, 2, 0);
        Check.due("number of two entries", c.get(4, 7), 196, 1, 0, 6, 0, 0, 0, 2);
    }

    private static boolean isAttribute(int o, int a) {
        return a == 1 || a == 2 || a == 3 && o > 0 || o == 4 && (a == 4 || a == 7 || a == 8);
    }

    private static void gettingWhatIsNot() {
        Client c = Client.reader(1);
        for (int o = 0; o < 256; o += o < 8 ? 1 : 31) {
            for (int a = 0; a < 256; a += a < 12 ? 1 : 61) {
                int result = o > 4 ? 4 : isAttribute(o, a) ? 0 : 9;
                int[] plain = c.get(o, a);
                Check.due("plain get of " + o + ", " + a, plain[2], result == 0 ? 0 : 1);
                if (result != 0) {
                    Check.due("answer to get of " + o + ", " + a, plain, 196, 1, 1, result);
                }
                int[] bounded = c.ask(192, 1, o, a, 1, 0, 0, 0, 0, 0, 0, 0, 9);
                if (o == 4 && a == 2) {
                    Check.due("bounded get of entries", bounded, 196, 1, 0, 1, 0);
                } else {
                    Check.due("bounded get of " + o + ", " + a, bounded, 196, 1, 1, result == 0 ? 13 : result);
                }
            }
        }
    }

    private static void gettingEntries() {
        Client c = Client.manager(4);
        c.set(4, 3, new int[] {1, 2, 17, 2, 17, 1});
        c.meter.run(258);
        c.meter.count(1, 3);
        c.meter.count(2, -1);
        c.act(4, 2, 0);
        Check.due("an entry", c.get(4, 2),
            196, 1, 0, 1, 1, 2, 3, 6, 0, 0, 1, 2, 5, 255, 255, 255, 255, 5, 0, 0, 0, 3);
        c.meter.run(1);
        c.meter.count(2, 3);
        c.act(4, 2, 0);
        Check.due("two entries", c.get(4, 2),
            196, 1, 0, 1, 2, 2, 3, 6, 0, 0, 1, 2, 5, 255, 255, 255, 255, 5, 0, 0, 0, 3,
            2, 3, 6, 0, 0, 1, 3, 5, 0, 0, 0, 2, 5, 0, 0, 0, 3);
    }

    private static void gettingSomeEntries() {
        Client c = Client.manager(3);
        c.set(4, 4, 6, 10);
        c.meter.run(30);
        int[][] asked = {{0, 30, 1, 2, 3}, {10, 30, 1, 2, 3}, {11, 29, 2}, {11, 30, 2, 3}, {10, 29, 1, 2},
            {20, 20, 2}, {21, 29}, {30, 10}, {0, -1, 1, 2, 3}, {-1, -1}, {-1, 30}, {20, Integer.MIN_VALUE, 2, 3},
            {Integer.MIN_VALUE, -1}, {31, Integer.MAX_VALUE}, {0, 9}};
        for (int[] row : asked) {
            List<Integer> due = new ArrayList<>(List.of(196, 1, 0, 1, row.length - 2));
            for (int i = 2; i < row.length; i++) {
                due.addAll(List.of(2, 2, 6, 0, 0, 0, 10 * row[i], 5, 0, 0, 0, 0));
            }
            c.put(192, 1, 4, 2, 1);
            c.meter.putInt(row[0]);
            c.meter.putInt(row[1]);
            c.meter.ask();
            Check.due("entries from " + row[0] + " to " + row[1], Client.payloadOf(c.deliver()),
                due.stream().mapToInt(Integer::intValue).toArray());
        }
        someEntriesAtTheEdgesOfTime();
    }

    private static void someEntriesAtTheEdgesOfTime() {
        Client c = Client.manager(3);
        c.act(4, 2, 0);
        c.set(0, 2, 6, Integer.MAX_VALUE);
        c.act(4, 2, 0);
        Check.due("all of them", c.get(4, 2),
            196, 1, 0, 1, 2, 2, 2, 6, 0, 0, 0, 0, 5, 0, 0, 0, 0, 2, 2, 6, 127, 255, 255, 255, 5, 0, 0, 0, 0);
        Check.due("from 0 to 0", c.ask(192, 1, 4, 2, 1, 0, 0, 0, 0, 0, 0, 0, 0),
            196, 1, 0, 1, 1, 2, 2, 6, 0, 0, 0, 0, 5, 0, 0, 0, 0);
        Check.due("from 1 to the greatest", c.ask(192, 1, 4, 2, 1, 0, 0, 0, 1, 255, 255, 255, 255),
            196, 1, 0, 1, 1, 2, 2, 6, 127, 255, 255, 255, 5, 0, 0, 0, 0);
        Check.due("from 2^31", c.ask(192, 1, 4, 2, 1, 128, 0, 0, 0, 255, 255, 255, 255), 196, 1, 0, 1, 0);
    }

    private static void settingNumbers() {
        Client c = Client.manager(2);
        for (int v : new int[] {0, 1, 0x01020304, Integer.MAX_VALUE}) {
            Check.due("set time " + v, c.set(0, 2, 6, v), 0);
            Check.due("time()", c.meter.time(), v);
            Check.due("set period " + v, c.set(4, 4, 6, v), 0);
            Check.due("period", c.get(4, 4), 196, 1, 0, 6, v >>> 24, v >>> 16 & 255, v >>> 8 & 255, v & 255);
        }
        for (int v : new int[] {0, 1, -1, Integer.MIN_VALUE, Integer.MAX_VALUE}) {
            for (int o = 1; o <= 3; o++) {
                Check.due("set register " + v, c.set(o, 2, 5, v + o), 0);
                Check.due("register(" + o + ")", c.meter.register(o), v + o);
            }
        }
        for (int v = 1; v <= 12; v++) {
            Check.due("set capacity " + v, c.set(4, 8, 6, v), 0);
            Check.due("capacity", c.get(4, 8), 196, 1, 0, 6, 0, 0, 0, v);
        }
        Check.due("setting the time captures nothing", c.meter.entries(), 0);
    }

    private static void settingWrongNumbers() {
        Client c = Client.manager(2);
        c.set(0, 2, 6, 5);
        c.act(4, 2, 0);
        for (int[] row : new int[][] {{0, 2, 6}, {1, 2, 5}, {2, 2, 5}, {3, 2, 5}, {4, 4, 6}, {4, 8, 6}}) {
            String what = "set " + row[0] + ", " + row[1];
            for (int tag : new int[] {0, 1, 2, 4, 5, 6, 7, 17, 255}) {
                if (tag != row[2]) {
                    Check.due(what + " with tag " + tag, c.set(row[0], row[1], tag, 3), 12);
                }
            }
            Check.due(what + " to no bytes", c.set(row[0], row[1], new int[0]), 12);
            Check.due(what + " to a tag", c.set(row[0], row[1], new int[] {row[2]}), 12);
            Check.due(what + " too short", c.set(row[0], row[1], new int[] {row[2], 0, 0, 3}), 12);
            Check.due(what + " too long", c.set(row[0], row[1], new int[] {row[2], 0, 0, 0, 3, 0}), 12);
        }
        for (int v : new int[] {-1, Integer.MIN_VALUE}) {
            Check.due("set time " + v, c.set(0, 2, 6, v), 12);
            Check.due("set period " + v, c.set(4, 4, 6, v), 12);
            Check.due("set capacity " + v, c.set(4, 8, 6, v), 12);
        }
        for (int v : new int[] {0, 13, 256, 0x01000001, Integer.MAX_VALUE}) {
            Check.due("set capacity " + v, c.set(4, 8, 6, v), 12);
        }
        Check.due("time()", c.meter.time(), 5);
        Check.due("entries()", c.meter.entries(), 1);
        Check.due("capacity", c.get(4, 8), 196, 1, 0, 6, 0, 0, 0, 2);
        Check.due("period", c.get(4, 4), 196, 1, 0, 6, 0, 0, 0, 0);
        Check.due("register(1)", c.meter.register(1), 0);
    }

    private static void settingColumns() {
        int[][] orders = {{1}, {2}, {3}, {1, 2}, {2, 1}, {1, 3}, {3, 1}, {2, 3}, {3, 2}, {1, 2, 3}, {1, 3, 2},
            {2, 1, 3}, {2, 3, 1}, {3, 1, 2}, {3, 2, 1}};
        Client c = Client.manager(2);
        for (int o = 1; o <= 3; o++) {
            c.meter.count(o, 100 * o);
        }
        for (int[] order : orders) {
            int[] value = columns(order);
            Check.due("set columns " + Arrays.toString(order), c.set(4, 3, value), 0);
            int[] answer = c.get(4, 3);
            Check.due("columns", Arrays.copyOfRange(answer, 3, answer.length), value);
            c.act(4, 2, 0);
            for (int k = 0; k < order.length; k++) {
                Check.due("column " + k, c.meter.entry(0, k + 1), 100 * order[k]);
            }
        }
    }

    private static int[] columns(int... registers) {
        int[] value = new int[2 + 2 * registers.length];
        value[0] = 1;
        value[1] = registers.length;
        for (int k = 0; k < registers.length; k++) {
            value[2 + 2 * k] = 17;
            value[3 + 2 * k] = registers[k];
        }
        return value;
    }

    private static void settingWrongColumns() {
        int[][] wrong = {{}, {1}, {1, 0}, {1, 1}, {1, 1, 17}, {2, 1, 17, 2}, {1, 1, 16, 2}, {1, 1, 17, 2, 0},
            {1, 2, 17, 2}, {1, 1, 17, 2, 17, 3}, {1, 2, 17, 2, 18, 3}, {1, 255}, {1, 3, 17, 1, 17, 2, 17},
            columns(0), columns(4), columns(255), columns(1, 1), columns(2, 2), columns(3, 3), columns(1, 4),
            columns(1, 0), columns(1, 2, 1), columns(2, 1, 1), columns(2, 2, 1), columns(1, 2, 4),
            columns(1, 2, 3, 1), columns(1, 2, 3, 4), columns(1, 33), columns(33), columns()};
        Client c = Client.manager(2);
        c.set(4, 3, columns(3, 2));
        c.act(4, 2, 0);
        for (int[] value : wrong) {
            Check.due("set columns to " + Arrays.toString(value), c.set(4, 3, value), 12);
        }
        Check.due("the columns are as they were", c.get(4, 3), 196, 1, 0, 1, 2, 17, 3, 17, 2);
        Check.due("the entries too", c.meter.entries(), 1);
    }

    private static void settingEmptiesTheProfile() {
        Client c = Client.manager(3);
        c.meter.run(1);
        for (int i = 0; i < 5; i++) {
            c.act(4, 2, 0);
        }
        c.set(4, 4, 6, 9);
        c.set(0, 2, 6, 9);
        c.set(1, 2, 5, 9);
        Check.due("period, time and registers leave the entries", c.meter.entries(), 3);
        c.set(4, 8, 6, 3);
        Check.due("the same capacity empties", c.meter.entries(), 0);
        c.act(4, 2, 0);
        c.set(4, 3, columns(1));
        Check.due("the same columns empty", c.meter.entries(), 0);
        c.set(4, 8, 6, 5);
        for (int i = 0; i < 7; i++) {
            c.meter.run(1);
            c.act(4, 2, 0);
        }
        Check.due("entries with a greater capacity", c.meter.entries(), 5);
        Check.due("the first of them", c.meter.entry(0, 0), 12);
        Check.due("the last of them", c.meter.entry(4, 0), 16);
    }

    private static void settingWithoutLeave() {
        Client reader = Client.reader(2);
        Client manager = Client.manager(2);
        for (int o = 0; o <= 6; o++) {
            for (int a = 0; a <= 9; a++) {
                boolean settable = a == 2 && o < 4 || o == 4 && (a == 3 || a == 4 || a == 8);
                int missing = o > 4 ? 4 : isAttribute(o, a) ? 0 : 9;
                Check.due("reader sets " + o + ", " + a, reader.set(o, a, new int[] {0}), missing == 0 ? 3 : missing);
                Check.due("manager sets " + o + ", " + a, manager.set(o, a, new int[] {0}),
                    missing != 0 ? missing : settable ? 12 : 3);
            }
        }
        Check.due("reader sets the time", reader.set(0, 2, 6, 77), 3);
        Check.due("time()", reader.meter.time(), 0);
        Check.due("manager sets entries", manager.set(4, 2, new int[] {1, 0}), 3);
    }

    private static void acting() {
        Client c = Client.manager(2);
        for (int o = 1; o <= 3; o++) {
            c.meter.count(o, 10 * o);
        }
        for (int o = 1; o <= 3; o++) {
            Check.due("reset " + o, c.act(o, 1, o * 80), 0);
            Check.due("register(" + o + ")", c.meter.register(o), 0);
            Check.due("the next one", c.meter.register(o % 3 + 1), o == 3 ? 0 : 10 * o + 10);
        }
        c.meter.run(7);
        Check.due("capture", c.act(4, 2, 255), 0);
        Check.due("entries()", c.meter.entries(), 1);
        Check.due("its time", c.meter.entry(0, 0), 7);
        Check.due("empty", c.act(4, 1, 255), 0);
        Check.due("entries() then", c.meter.entries(), 0);
        Check.due("empty once more", c.act(4, 1, 0), 0);
    }

    private static void actingWithoutLeave() {
        Client reader = Client.reader(2);
        Client manager = Client.manager(2);
        reader.meter.count(1, 5);
        for (int o = 0; o <= 6; o++) {
            for (int m = 0; m <= 5; m++) {
                boolean method = o == 0 ? m == 3 : o == 4 ? m == 1 || m == 2 : m == 1;
                int missing = o > 4 ? 4 : method ? 0 : 9;
                Check.due("reader acts " + o + ", " + m, reader.act(o, m, 0), missing == 0 ? 3 : missing);
                Check.due("manager acts " + o + ", " + m, manager.act(o, m, 0),
                    missing == 0 && o == 0 ? 13 : missing);
            }
        }
        Check.due("nothing was done for the reader", reader.meter.register(1), 5);
        Check.due("nor captured", reader.meter.entries(), 0);
    }

    private static void roundingTheTime() {
        int[][] rows = {{0, 7, 0}, {6, 7, 0}, {7, 7, 7}, {13, 7, 7}, {14, 1, 14}, {999, 255, 765},
            {Integer.MAX_VALUE, 255, Integer.MAX_VALUE - 127}, {Integer.MAX_VALUE, 2, Integer.MAX_VALUE - 1}};
        Client c = Client.manager(2);
        c.set(4, 4, 6, 7);
        for (int[] row : rows) {
            c.set(0, 2, 6, row[0]);
            Check.due("round " + row[0] + " by " + row[1], c.act(0, 3, row[1]), 0);
            Check.due("time() then", c.meter.time(), row[2]);
        }
        c.set(0, 2, 6, 15);
        Check.due("round by 0", c.act(0, 3, 0), 13);
        Check.due("time() is as it was", c.meter.time(), 15);
        Check.due("rounding captures nothing", c.meter.entries(), 0);
    }

    /** A manager's meter with so many columns and entries, at the times 1, 2 and so on. */
    private static Client withEntries(int columns, int entries) {
        Client c = Client.manager(12);
        c.set(4, 3, columns(Arrays.copyOf(new int[] {1, 2, 3}, columns)));
        for (int o = 1; o <= 3; o++) {
            c.meter.count(o, 0x01010101 * o);
        }
        c.set(4, 4, 6, 1);
        c.meter.run(entries);
        return c;
    }

    private static int[] encoded(int columns, int entries) {
        List<Integer> value = new ArrayList<>(List.of(1, entries));
        for (int t = 1; t <= entries; t++) {
            value.addAll(List.of(2, columns + 1, 6, 0, 0, 0, t));
            for (int o = 1; o <= columns; o++) {
                value.addAll(List.of(5, o, o, o, o));
            }
        }
        return value.stream().mapToInt(Integer::intValue).toArray();
    }

    private static int[] block(int[] value, int k) {
        int from = 40 * (k - 1);
        int to = Math.min(from + 40, value.length);
        int[] block = new int[4 + to - from];
        block[0] = 196;
        block[1] = 2;
        block[2] = to == value.length ? 1 : 0;
        block[3] = k;
        System.arraycopy(value, from, block, 4, to - from);
        return block;
    }

    private static void blocks() {
        for (int columns = 1; columns <= 3; columns++) {
            for (int entries = 0; entries <= 12; entries++) {
                Client c = withEntries(columns, entries);
                int[] value = encoded(columns, entries);
                int[] answer = c.get(4, 2);
                String what = entries + " entries of " + columns + " columns";
                if (value.length <= 40) {
                    Check.due(what, Arrays.copyOf(answer, 3), 196, 1, 0);
                    Check.due(what, Arrays.copyOfRange(answer, 3, answer.length), value);
                    Check.due("no long value", c.ask(192, 2, 0), 196, 1, 1, 16);
                    continue;
                }
                int last = (value.length + 39) / 40;
                for (int k = 1; k <= last; k++) {
                    Check.due(what + ", block " + k, answer, block(value, k));
                    answer = c.ask(192, 2, k);
                }
                Check.due("behind the last block", answer, 196, 1, 1, 16);
            }
        }
    }

    /** Values of one column have 2 + 12 e bytes, of two 2 + 17 e, of three 2 + 22 e: only these are near 40 k. */
    private static void blocksOfFortyBytes() {
        Client c = withEntries(1, 3);
        Check.due("38 bytes go at once", c.get(4, 2).length, 3 + 38);
        c = withEntries(3, 9);
        int[] value = encoded(3, 9);
        Check.due("200 bytes are five whole blocks", value.length, 200);
        c.get(4, 2);
        for (int k = 1; k < 4; k++) {
            c.ask(192, 2, k);
        }
        Check.due("the fifth block is whole, and the last", c.ask(192, 2, 4), block(value, 5));
        Check.due("it has so many bytes", block(value, 5).length, 44);
        Check.due("there is no sixth", c.ask(192, 2, 5), 196, 1, 1, 16);
    }

    private static void blocksOutOfOrder() {
        for (int k : new int[] {0, 2, 3, 255}) {
            Client c = withEntries(3, 12);
            c.get(4, 2);
            Check.due("block behind " + k, c.ask(192, 2, k), 196, 1, 1, 19);
            Check.due("the long value is gone", c.ask(192, 2, 1), 196, 1, 1, 16);
        }
        Client c = withEntries(3, 12);
        c.get(4, 2);
        c.ask(192, 2, 1);
        Check.due("block behind 1 once more", c.ask(192, 2, 1), 196, 1, 1, 19);
        Check.due("the long value is gone then", c.ask(192, 2, 2), 196, 1, 1, 16);
    }

    private static void aLongValueStaysAsItWas() {
        Client c = withEntries(2, 12);
        int[] value = encoded(2, 12);
        c.get(4, 2);
        c.meter.run(9);
        c.meter.count(1, 5);
        Check.due("block 2 of what was", c.ask(192, 2, 1), block(value, 2));
        c.askInVain(192, 2, 2);
        c.meter.run(9);
        Check.due("block 3 once more", c.ask(192, 2, 2), block(value, 3));
        c.send(16, 98);
        c.send(17, 98);
        c.put(1, 2);
        c.deliver();
        Check.due("no answer, no end of the long value", c.ask(192, 2, 3), block(value, 4));
        c.get(4, 2);
        Check.due("a second get begins anew", c.ask(192, 2, 1)[3], 2);
    }

    private static void aLongValueEnds() {
        int[][] payloads = {{0}, {98, 0}, {96, 1, 0, 0, 0, 0}, {192, 1, 0, 1, 0}, {192, 1, 9, 1, 0}, {192, 2},
            {192, 2, 1, 0}, {193, 0, 2}, {195, 0, 0, 0}, {195, 4, 2, 0}, {192, 1, 4, 2, 1, 0, 0, 0, 1, 0, 0, 0, 1}};
        for (int[] payload : payloads) {
            Client c = withEntries(3, 12);
            c.get(4, 2);
            c.ask(payload);
            Check.due("long value after " + Arrays.toString(payload), c.ask(192, 2, 1), 196, 1, 1, 16);
        }
        Client c = withEntries(3, 12);
        c.get(4, 2);
        c.ask(98);
        Check.due("no block without association", c.ask(192, 2, 1), 216, 1);
        c.ask(96, 1, 0, 0, 0, 0);
        Check.due("nor with one", c.ask(192, 2, 1), 196, 1, 1, 16);
        c.get(4, 2);
        c.send(147);
        c.ask(96, 1, 0, 0, 0, 0);
        Check.due("nor after connecting", c.ask(192, 2, 1), 196, 1, 1, 16);
        Check.due("a reader gets long values too", c.get(4, 2)[1], 2);
    }
}
