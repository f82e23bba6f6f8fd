import java.util.Arrays;

/** Promise 15, the answers to payloads, the association and the blocks: a method for each sentence. */
public final class AnswersTest {
    private static final int[] OTHERS = {216, 2};

    public static void main(String[] args) {
        lengthsOfAssociating();
        lengthsOfReleasing();
        lengthsOfGetting();
        lengthsOfTheNextBlock();
        lengthsOfSetting();
        lengthsOfActing();
        reader();
        manager();
        neitherReaderNorManager();
        releasing();
        associationNone();
        associationOfOtherPayloads();
        gettingKinds();
        allOthers();
        atMost40Bytes();
        blocksOfAllSizes();
        lastBlockIsWhole();
        lastBlockWasSent();
        lastBlockWasLost();
        noLongValue();
        notTheBlockSentLast();
        theNextBlock();
        aLongValueStaysAsItWas();
        aLongValueEndsByAnyPayload();
        aLongValueOutlivesWhatIsNoAnswer();
        aLongValueAfterConnecting();
        blocksForAReader();
        blocksOfSomeEntries();
        Check.end();
    }

    // ---- lengths

    /** Every length from 1 to 16, and 60, but those that are as said. */
    private static void otherLengths(int[] payload, int... asSaid) {
        for (int size = 1; size <= 60; size += size == 16 ? 44 : 1) {
            int length = size;
            if (Arrays.stream(asSaid).noneMatch(said -> said == length)) {
                Client c = Client.manager(1);
                Check.due("the answer to " + size + " bytes of " + Arrays.toString(payload),
                    c.ask(Arrays.copyOf(payload, size)), OTHERS);
                Check.due("link() then", c.meter.link(), 1 + 8 + 32 + 256);
            }
        }
    }

    private static void lengthsOfAssociating() {
        Check.sentence("Terms", "The payload has to be just as long as said, otherwise it is one of \"all others\"");
        otherLengths(new int[] {96, 1, 0, 0, 0, 0}, 6);
        otherLengths(new int[] {96, 2, 0x12, 0x34, 0x56, 0x78}, 6);
        otherLengths(new int[] {96, 3, 0, 0, 0, 0}, 6);
        Check.due("96 of six bytes", Client.manager(1).ask(96, 1, 0, 0, 0, 0), 97, 0);
    }

    private static void lengthsOfReleasing() {
        Check.sentence("Terms", "98: the association is 0; 99");
        otherLengths(new int[] {98}, 1);
        Check.due("98 alone", Client.manager(1).ask(98), 99);
    }

    private static void lengthsOfGetting() {
        Check.sentence("Terms", "192, 1, o, a, 0: the value of attribute a of object o");
        otherLengths(new int[] {192, 1, 0, 1, 0}, 5);
        otherLengths(new int[] {192, 1, 4, 2, 0}, 5);
        otherLengths(new int[] {192, 1, 9, 9, 0}, 5);
        Check.sentence("Terms", "192, 1, o, a, 1, four bytes f, four bytes t: likewise");
        otherLengths(new int[] {192, 1, 4, 2, 1, 0, 0, 0, 0, 0, 0, 0, 9}, 13);
        otherLengths(new int[] {192, 1, 0, 1, 1, 0, 0, 0, 0, 0, 0, 0, 9}, 13);
        Check.due("of five bytes", Client.manager(1).ask(192, 1, 4, 2, 0), Bytes.got(1, 0));
        Check.due("of thirteen bytes", Client.manager(1).getSome(4, 2, 0, 9), Bytes.got(1, 0));
    }

    private static void lengthsOfTheNextBlock() {
        Check.sentence("Terms", "192, 2, k: 196, 1, 1, 16 when there is no long value");
        otherLengths(new int[] {192, 2, 0}, 3);
        otherLengths(new int[] {192, 2, 1}, 3);
        Check.due("of three bytes", Client.manager(1).ask(192, 2, 0), 196, 1, 1, 16);
    }

    private static void lengthsOfSetting() {
        Check.sentence("Terms", "193, o, a, and any bytes: 197 and the result");
        Check.due("193", Client.manager(1).ask(193), 216, 2);
        Check.due("193 and one byte", Client.manager(1).ask(193, 1), 216, 2);
        int[] payload = new int[60];
        payload[0] = 193;
        payload[1] = 1;
        payload[2] = 2;
        payload[3] = 5;
        for (int size = 3; size <= 60; size++) {
            Check.due("193 of " + size, Client.manager(1).ask(Arrays.copyOf(payload, size)), 197, size == 8 ? 0 : 12);
        }
    }

    private static void lengthsOfActing() {
        Check.sentence("Terms", "195, o, m, p: 199 and the result");
        otherLengths(new int[] {195, 1, 1, 0}, 4);
        otherLengths(new int[] {195, 4, 1, 0}, 4);
        Check.due("195 of four bytes", Client.manager(1).ask(195, 1, 1, 0), 199, 0);
    }

    // ---- the association

    private static void reader() {
        Check.sentence("Terms", "96, l, four bytes: if l is 1");
        for (int b : new int[] {0, 1, 0x12, 255}) {
            Client c = Client.connected(1);
            Check.due("a reader", c.ask(96, 1, b, b, b, b), 97, 0);
            Check.due("association", c.association(), 1);
            Check.due("a manager", c.ask(96, 2, 0x12, 0x34, 0x56, 0x78), 97, 0);
            Check.due("association", c.association(), 2);
            Check.due("a reader again", c.ask(96, 1, 0x12, 0x34, 0x56, 0x78), 97, 0);
            Check.due("association", c.association(), 1);
        }
    }

    private static void manager() {
        Check.sentence("Terms", "or l is 2 and the four bytes are those of the secret: the association is l; 97, 0");
        Client c = Client.connected(1);
        int[] secret = {96, 2, 0x12, 0x34, 0x56, 0x78};
        for (int i = 2; i < 6; i++) {
            for (int bit = 0; bit < 8; bit += 7) {
                c.tell(secret);
                int[] spoilt = secret.clone();
                spoilt[i] ^= 1 << bit;
                Check.due("bit " + bit + " of byte " + i + " spoilt", c.ask(spoilt), 97, 1);
                Check.due("association", c.association(), 0);
            }
        }
        Check.due("the bytes turned round", c.ask(96, 2, 0x78, 0x56, 0x34, 0x12), 97, 1);
        Check.due("the secret", c.ask(secret), 97, 0);
        Check.due("association", c.association(), 2);
    }

    private static void neitherReaderNorManager() {
        Check.sentence("Terms", "Otherwise the association is 0; 97, 1");
        for (int l : new int[] {0, 3, 4, 5, 6, 128, 254, 255}) {
            Client c = Client.manager(1);
            Check.due("association " + l, c.ask(96, l, 0x12, 0x34, 0x56, 0x78), 97, 1);
            Check.due("link() then", c.meter.link(), 1 + 32 + 256);
            Check.due("a get then", c.get(0, 1), 216, 1);
        }
    }

    private static void releasing() {
        Check.sentence("Terms", "98: the association is 0; 99");
        for (Client c : new Client[] {Client.connected(1), Client.reader(1), Client.manager(1)}) {
            Check.due("98", c.ask(98), 99);
            Check.due("association", c.association(), 0);
            Check.due("98 once more", c.ask(98), 99);
            Check.due("a get then", c.get(0, 1), 216, 1);
        }
    }

    private static void associationNone() {
        Check.sentence("Terms", "With association 0, payloads that begin with 192, 193 or 195: 216, 1");
        for (int first = 190; first <= 197; first++) {
            int want = first == 192 || first == 193 || first == 195 ? 1 : 2;
            for (int size = 1; size <= 60; size += size == 16 ? 44 : 1) {
                Client c = Client.connected(1);
                int[] payload = Arrays.copyOf(new int[] {first, 1, 4, 2}, size);
                Check.due(first + " of " + size + " bytes", c.ask(payload), 216, want);
                Check.due("link() then", c.meter.link(), 1 + 16 + 128);
            }
        }
        Client c = Client.connected(1);
        c.tell(193, 1, 2, 5, 0, 0, 0, 9);
        c.tell(195, 4, 2, 0);
        Check.due("register(1)", c.meter.register(1), 0);
        Check.due("entries()", c.meter.entries(), 0);
        Check.due("the next block", c.ask(192, 2, 1), 216, 1);
    }

    private static void associationOfOtherPayloads() {
        Check.sentence("Terms", "an ASSOCIATION (0 none, 1 reader, 2 manager)");
        Client reader = Client.reader(1);
        Check.due("a reader gets", reader.get(1, 2), Bytes.got(5, 0, 0, 0, 0));
        Check.due("a reader sets", reader.set(1, 2, 5, 1), 3);
        Check.due("a reader acts", reader.act(1, 1, 0), 3);
        Client manager = Client.manager(1);
        Check.due("a manager gets", manager.get(1, 2), Bytes.got(5, 0, 0, 0, 0));
        Check.due("a manager sets", manager.set(1, 2, 5, 1), 0);
        Check.due("a manager acts", manager.act(1, 1, 0), 0);
        Check.due("link() of the reader", reader.association(), 1);
        Check.due("link() of the manager", manager.association(), 2);
    }

    // ---- kinds of payloads

    private static void gettingKinds() {
        Check.sentence("Terms", "192, 1, o, a, 1, four bytes f, four bytes t: likewise");
        Client c = Client.reader(1);
        for (int choice : new int[] {1, 2, 3, 255}) {
            Check.due("get without bounds, chosen " + choice, c.ask(192, 1, 4, 2, choice), 216, 2);
        }
        for (int choice : new int[] {0, 2, 3, 255}) {
            Check.due("get with bounds, chosen " + choice, c.ask(192, 1, 4, 2, choice, 0, 0, 0, 0, 0, 0, 0, 9), 216, 2);
        }
        for (int kind : new int[] {0, 2, 3, 255}) {
            Check.due("get of kind " + kind, c.ask(192, kind, 4, 2, 0), 216, 2);
            Check.due("get with bounds of kind " + kind, c.ask(192, kind, 4, 2, 1, 0, 0, 0, 0, 0, 0, 0, 9), 216, 2);
        }
        for (int kind : new int[] {0, 1, 3, 255}) {
            Check.due("three bytes of kind " + kind, c.ask(192, kind, 0), 216, 2);
        }
    }

    private static void allOthers() {
        Check.sentence("Terms", "All others: 216, 2");
        for (int first = 0; first < 256; first++) {
            Client c = Client.manager(1);
            if (first != 98) {
                Check.due(first + " alone", c.ask(first), 216, 2);
            }
            if (first != 96 && first != 193) {
                Check.due(first + " as to associate", c.ask(first, 1, 0, 0, 0, 0), 216, 2);
            }
            if (first != 192 && first != 193) {
                Check.due(first + " as to get", c.ask(first, 1, 0, 1, 0), 216, 2);
                Check.due(first + " as to go on", c.ask(first, 2, 0), 216, 2);
            }
            if (first != 195 && first != 193) {
                Check.due(first + " as to act", c.ask(first, 1, 1, 0), 216, 2);
            }
            if (first != 193) {
                Check.due(first + " as to set", c.ask(first, 1, 2, 5, 0, 0, 0, 9), 216, 2);
            }
            Check.due("association", c.association(), 2);
            Check.due("register(1)", c.meter.register(1), 0);
        }
        for (Client c : new Client[] {Client.connected(1), Client.reader(1)}) {
            Check.due("0 alone of others", c.ask(0), 216, 2);
        }
    }

    // ---- long values

    /** A manager's meter with so many columns and entries, at the times 1, 2 and so on. */
    private static Client withEntries(int columns, int entries) {
        Client c = Client.manager(12);
        c.set(4, 3, Bytes.columns(Arrays.copyOf(new int[] {1, 2, 3}, columns)));
        for (int o = 1; o <= 3; o++) {
            c.meter.count(o, 0x01010101 * o);
        }
        c.set(4, 4, 6, 1);
        c.meter.run(entries);
        return c;
    }

    private static int[] encoded(int columns, int from, int to) {
        int[] value = {1, to - from + 1};
        for (int t = from; t <= to; t++) {
            value = Bytes.joined(value, new int[] {2, columns + 1}, Bytes.tagged(6, t));
            for (int o = 1; o <= columns; o++) {
                value = Bytes.joined(value, Bytes.tagged(5, 0x01010101 * o));
            }
        }
        return value;
    }

    private static int[] block(int[] value, int k) {
        int from = 40 * (k - 1);
        int to = Math.min(from + 40, value.length);
        int last = to == value.length ? 1 : 0;
        return Bytes.joined(new int[] {196, 2, last, k}, Arrays.copyOfRange(value, from, to));
    }

    /** Values have 2 + 12 e, 2 + 17 e or 2 + 22 e bytes: none has 39 to 45. */
    private static void atMost40Bytes() {
        Check.sentence("Terms", "Otherwise, with the bytes v of the value: if these are at most 40: 196, 1, 0, v; otherwise v is the long value, and its first block is sent");
        int[][] atOnce = {{1, 3, 38}, {2, 2, 36}, {3, 1, 24}};
        for (int[] row : atOnce) {
            int[] value = encoded(row[0], 1, row[1]);
            Check.due("bytes of the value", value.length, row[2]);
            Client c = withEntries(row[0], row[1]);
            Check.due("at once", c.get(4, 2), Bytes.got(value));
            Check.due("it is no long value", c.nextBlock(1), 196, 1, 1, 16);
        }
        int[][] inBlocks = {{1, 4, 50}, {2, 3, 53}, {3, 2, 46}};
        for (int[] row : inBlocks) {
            int[] value = encoded(row[0], 1, row[1]);
            Check.due("bytes of the value", value.length, row[2]);
            Client c = withEntries(row[0], row[1]);
            Check.due("the first block", c.get(4, 2), block(value, 1));
            Check.due("the second block", c.nextBlock(1), block(value, 2));
        }
    }

    private static void blocksOfAllSizes() {
        Check.sentence("Terms", "196, 2, 1 if it is the last one, 0 else, k, and the k-th 40 bytes of the long value (or as many as are left)");
        for (int columns = 1; columns <= 3; columns++) {
            for (int entries = 2; entries <= 12; entries++) {
                int[] value = encoded(columns, 1, entries);
                Client c = withEntries(columns, entries);
                int[] answer = c.get(4, 2);
                int last = value.length > 40 ? (value.length + 39) / 40 : 0;
                for (int k = 1; k <= last; k++) {
                    Check.due(entries + " entries of " + columns + ", block " + k, answer, block(value, k));
                    answer = k < last ? c.nextBlock(k) : answer;
                }
            }
        }
    }

    /** 2 + 22 * 9 is the only number of bytes that 40 divides. */
    private static void lastBlockIsWhole() {
        Check.sentence("Terms", "1 if it is the last one, 0 else");
        Client c = withEntries(3, 9);
        int[] value = encoded(3, 1, 9);
        Check.due("bytes of the value", value.length, 200);
        c.tell(192, 1, 4, 2, 0);
        for (int k = 1; k < 3; k++) {
            c.tell(192, 2, k);
        }
        Check.due("the fourth block", c.nextBlock(3), block(value, 4));
        int[] fifth = c.nextBlock(4);
        Check.due("the fifth block", fifth, block(value, 5));
        Check.due("is whole", fifth.length, 44);
        Check.due("and the last", fifth[2], 1);
        Check.due("there is no sixth", c.nextBlock(5), 196, 1, 1, 16);
    }

    private static void lastBlockWasSent() {
        Check.sentence("Terms", "It is a long value no more when its last block was sent");
        for (int k : new int[] {0, 1, 2, 3}) {
            Client c = withEntries(3, 3);
            c.tell(192, 1, 4, 2, 0);
            Check.due("the last block", c.nextBlock(1)[2], 1);
            Check.due("the block behind " + k, c.nextBlock(k), 196, 1, 1, 16);
        }
        Client c = withEntries(3, 4);
        c.tell(192, 1, 4, 2, 0);
        Check.due("a block that is not the last", c.nextBlock(1)[2], 0);
        Check.due("the last block", c.nextBlock(2)[2], 1);
        Check.due("behind the last one", c.nextBlock(3), 196, 1, 1, 16);
    }

    /** It was sent, though nobody got it: only the frame's numbers bring it once more. */
    private static void lastBlockWasLost() {
        Check.sentence("Terms", "It is a long value no more when its last block was sent");
        Client c = withEntries(3, 3);
        int[] value = encoded(3, 1, 3);
        c.tell(192, 1, 4, 2, 0);
        c.askInVain(192, 2, 1);
        Check.due("the last block once more", c.nextBlock(1), block(value, 2));
        Check.due("behind it", c.nextBlock(2), 196, 1, 1, 16);
    }

    private static void noLongValue() {
        Check.sentence("Terms", "196, 1, 1, 16 when there is no long value");
        for (int k : new int[] {0, 1, 2, 7, 255}) {
            Check.due("at first, behind " + k, Client.reader(1).nextBlock(k), 196, 1, 1, 16);
            Client c = withEntries(1, 3);
            c.tell(192, 1, 4, 2, 0);
            Check.due("after a short value, behind " + k, c.nextBlock(k), 196, 1, 1, 16);
        }
    }

    private static void notTheBlockSentLast() {
        Check.sentence("Terms", "196, 1, 1, 19 (and it is a long value no more) when k is not the number of the block that was sent last");
        for (int sent = 1; sent <= 6; sent++) {
            for (int k : new int[] {0, 1, sent - 1, sent + 1, sent + 2, 7, 255}) {
                if (k != sent) {
                    Client c = withEntries(3, 12);
                    c.tell(192, 1, 4, 2, 0);
                    for (int i = 1; i < sent; i++) {
                        c.tell(192, 2, i);
                    }
                    Check.due("behind " + k + " when " + sent + " was sent", c.nextBlock(k), 196, 1, 1, 19);
                    Check.due("no more behind " + sent, c.nextBlock(sent), 196, 1, 1, 16);
                }
            }
        }
    }

    private static void theNextBlock() {
        Check.sentence("Terms", "SENDING block k (from 1 on)");
        Client c = withEntries(3, 12);
        int[] value = encoded(3, 1, 12);
        Check.due("the most that a value can have", value.length, 266);
        Check.due("block 1", c.get(4, 2), block(value, 1));
        Check.sentence("Terms", "otherwise the next block is sent (and it stays the long value)");
        for (int k = 1; k <= 6; k++) {
            Check.due("block behind " + k, c.nextBlock(k), block(value, k + 1));
        }
        Check.due("behind all", c.nextBlock(7), 196, 1, 1, 16);
    }

    private static void aLongValueStaysAsItWas() {
        Check.sentence("Terms", "perhaps a LONG VALUE: bytes, of which so many blocks were sent");
        Client c = withEntries(2, 12);
        int[] value = encoded(2, 1, 12);
        c.tell(192, 1, 4, 2, 0);
        c.meter.run(9);
        c.meter.count(1, 5);
        Check.due("block 2 of what was", c.nextBlock(1), block(value, 2));
        c.meter.run(9);
        Check.due("block 3 of what was", c.nextBlock(2), block(value, 3));
        int[] anew = c.get(4, 2);
        Check.due("a second get begins anew", anew[3], 1);
        Check.due("with what is now", anew[12], 19);
        Check.due("and goes on from there", c.nextBlock(1)[3], 2);
    }

    private static void aLongValueEndsByAnyPayload() {
        Check.sentence("Terms", "There is a long value no more, whatever the payload is, unless it is said");
        int[][] payloads = {{0}, {98, 0}, {96, 1, 0, 0, 0, 0}, {96, 1}, {192, 1, 0, 1, 0}, {192, 1, 9, 1, 0}, {192},
            {192, 1, 1, 9, 0}, {192, 1, 1, 2, 1, 0, 0, 0, 1, 0, 0, 0, 1}, {192, 2}, {192, 2, 1, 0}, {192, 3, 1}, {193},
            {193, 0, 2}, {193, 9, 2}, {193, 1, 2, 5, 0, 0, 0, 9}, {195, 0, 0, 0}, {195, 4, 2, 0}, {195, 4, 1, 0},
            {195}, {192, 1, 4, 2, 1, 0, 0, 0, 1, 0, 0, 0, 1}};
        for (int[] payload : payloads) {
            Client c = withEntries(3, 12);
            c.tell(192, 1, 4, 2, 0);
            c.tell(payload);
            Check.due("behind " + Arrays.toString(payload), c.nextBlock(1), 196, 1, 1, 16);
        }
        int[][] leaving = {{98}, {96, 2, 0, 0, 0, 0}, {96, 9, 0, 0, 0, 0}};
        for (int[] payload : leaving) {
            Client c = withEntries(3, 12);
            c.tell(192, 1, 4, 2, 0);
            c.tell(payload);
            Check.due("without association", c.nextBlock(1), 216, 1);
            c.tell(96, 1, 0, 0, 0, 0);
            Check.due("with one again", c.nextBlock(1), 196, 1, 1, 16);
        }
    }

    private static void aLongValueOutlivesWhatIsNoAnswer() {
        Check.sentence("Terms", "All other frames: nothing");
        Client c = withEntries(3, 12);
        int[] value = encoded(3, 1, 12);
        c.tell(192, 1, 4, 2, 0);
        int step = c.meter.link() >> 4 & 7;
        c.controlFor(16 + 34 * ((step + 1) % 8), 98);
        c.controlFor(16 + 34 * ((step + 7) % 8), 98);
        c.controlFor(17, 98);
        c.controlFor(147, 98);
        c.controlFor(16);
        c.put(1, 2);
        c.meter.deliver(false);
        Check.due("the long value is there still", c.nextBlock(1), block(value, 2));
    }

    private static void aLongValueAfterConnecting() {
        Check.sentence("Terms", "there is no long value; it replies a frame with control 115");
        Client c = withEntries(3, 12);
        c.tell(192, 1, 4, 2, 0);
        c.connect();
        c.tell(96, 1, 0, 0, 0, 0);
        Check.due("a long value after connecting", c.nextBlock(1), 196, 1, 1, 16);
    }

    private static void blocksForAReader() {
        Check.sentence("Terms", "an ASSOCIATION (0 none, 1 reader, 2 manager), and perhaps a LONG VALUE");
        Client c = withEntries(3, 12);
        int[] value = encoded(3, 1, 12);
        c.tell(96, 1, 0, 0, 0, 0);
        Check.due("a reader's first block", c.get(4, 2), block(value, 1));
        Check.due("a reader's second block", c.nextBlock(1), block(value, 2));
    }

    private static void blocksOfSomeEntries() {
        Check.sentence("Terms", "of the entries those with times from f to t alone");
        Client c = withEntries(3, 12);
        int[] two = encoded(3, 5, 6);
        Check.due("the first block of two entries", c.getSome(4, 2, 5, 6), block(two, 1));
        Check.due("the last block of two entries", c.nextBlock(1), block(two, 2));
        Check.due("one entry at once", c.getSome(4, 2, 12, 99), Bytes.got(encoded(3, 12, 12)));
        Check.due("no long value then", c.nextBlock(1), 196, 1, 1, 16);
        Client all = withEntries(1, 12);
        Check.due("three of twelve at once", all.getSome(4, 2, 2, 4), Bytes.got(encoded(1, 2, 4)));
        Check.due("four of twelve in blocks", all.getSome(4, 2, 2, 5), block(encoded(1, 2, 5), 1));
    }
}
