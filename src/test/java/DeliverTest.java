/** Promises 15 and 16 and the terms of delivering: a method for each sentence. */
public final class DeliverTest {
    public static void main(String[] args) {
        theLineIsEmptyThen();
        theReplyIsEmptyThen();
        howManyBytesTheReplyHas();
        connecting();
        connectingOnceMore();
        connectingWithAPayload();
        repliesWithoutPayload();
        disconnecting();
        disconnectingWithAPayload();
        requestsWhenNotConnected();
        informationWithoutAPayload();
        numbersFrom0To7();
        requestsInStep();
        numbersOfTheReply();
        theLatestOnceMore();
        sevenIsOneLessThanZero();
        theLatestIsTheLatest();
        noLatestSinceItWasConnected();
        aLostLatest();
        nothingElseChanges();
        otherwise();
        bothHaveToBeOneLess();
        allOtherFrames();
        lostRepliesAreEmpty();
        theMeterDoesAllTheSame();
        nothingComesToTheAsker();
        theAskerAtFirst();
        theAskerAt115();
        theAskerInStep();
        theAskerAfterSeven();
        theAskerOutOfStep();
        bytesOfTheReply();
        noSuchByteOfTheReply();
        Check.end();
    }

    private static int linkAt(int step) {
        return 1 + 16 * step + 128 * step;
    }

    private static int information(int s, int r) {
        return 16 + 2 * s + 32 * r;
    }

    // ---- delivering

    private static void theLineIsEmptyThen() {
        Check.sentence("Terms", "DELIVERING the line makes it empty");
        for (boolean lost : new boolean[] {false, true}) {
            for (int control : new int[] {147, 83, 0}) {
                CountedMeter m = new CountedMeter(1, 1);
                m.frame(control);
                m.deliver(lost);
                Check.due("put after a frame", m.put(0), 1);
            }
            Client c = Client.connected(1);
            c.put(98);
            c.meter.ask();
            c.meter.deliver(lost);
            Check.due("put after a request", c.meter.put(0), 1);
            c.put(Bytes.repeated(9, 79));
            c.meter.deliver(lost);
            Check.due("put after no frame", c.meter.put(0), 1);
        }
    }

    private static void theReplyIsEmptyThen() {
        Check.sentence("Terms", "the reply becomes empty, unless it is said that the meter REPLIES something");
        int[][] silent = {{}, {126}, {1, 2, 3}, Bytes.frame(0), Bytes.frame(16), Bytes.frame(147, 0), Bytes.frame(17, 98)};
        for (int[] line : silent) {
            Client c = Client.connected(1);
            Check.due("reply(0) ahead", c.meter.reply(0), 126);
            c.put(line);
            Check.due("deliver(false)", c.meter.deliver(false), 0);
            Check.refused("reply(0)", IndexOutOfBoundsException.class, () -> c.meter.reply(0));
            Check.due("link()", c.meter.link(), 1);
        }
    }

    private static void howManyBytesTheReplyHas() {
        Check.sentence("Promise 15", "Delivers the line: how many bytes the reply has");
        Client c = new Client(12);
        Check.due("deliver of nothing", c.meter.deliver(false), 0);
        c.meter.frame(147);
        Check.due("deliver of 147", c.meter.deliver(false), 7);
        c.put(98);
        c.meter.ask();
        Check.due("deliver of 98", c.meter.deliver(false), 10);
        c.put(96, 2);
        c.meter.putInt(Client.SECRET);
        c.meter.ask();
        Check.due("deliver of 96", c.meter.deliver(false), 11);
        for (int i = 0; i < 4; i++) {
            c.capture();
        }
        c.put(192, 1, 4, 2, 0);
        c.meter.ask();
        Check.due("deliver of a get of 50 bytes", c.meter.deliver(false), 53);
        c.put(192, 2, 1);
        c.meter.ask();
        Check.due("deliver of the block behind it", c.meter.deliver(false), 23);
    }

    // ---- control 147 and 83

    private static void connecting() {
        Check.sentence("Terms", "CONTROL 147 without a payload: it is connected, EXPECTED and NEXT are 0, the association is 0");
        Client c = new Client(1);
        Check.due("reply to 147", c.send(147), Bytes.frame(115));
        Check.due("link()", c.meter.link(), 1);
        Check.due("a request", c.controlFor(16, 98), 48);
    }

    private static void connectingOnceMore() {
        Check.sentence("Terms", "EXPECTED and NEXT are 0, the association is 0, there is no long value; it replies a frame with control 115");
        for (int[] first : new int[][] {Bytes.frame(147), Bytes.frame(83)}) {
            Client c = Client.manager(12);
            for (int i = 0; i < 4; i++) {
                c.capture();
            }
            c.meter.count(1, 5);
            c.meter.run(9);
            Check.due("a long value", c.get(4, 2)[1], 2);
            c.put(first);
            c.meter.deliver(false);
            Check.due("reply to 147", c.send(147), Bytes.frame(115));
            Check.due("link()", c.meter.link(), 1);
            Check.due("the association is 0", c.ask(192, 2, 1), 216, 1);
            c.tell(96, 1, 0, 0, 0, 0);
            Check.due("the long value is gone", c.nextBlock(1), 196, 1, 1, 16);
            Check.due("entries() stay", c.meter.entries(), 4);
            Check.due("register(1) stays", c.meter.register(1), 5);
            Check.due("time() stays", c.meter.time(), 9);
        }
    }

    private static void connectingWithAPayload() {
        Check.sentence("Terms", "CONTROL 147 without a payload");
        Client off = new Client(1);
        Check.due("147 with a payload", off.controlFor(147, 0), -1);
        Check.due("link()", off.meter.link(), 0);
        Client on = Client.reader(1);
        Check.due("147 with a payload of a reader", on.controlFor(147, 0), -1);
        Check.due("link() of a reader", on.meter.link(), linkAt(1) + 4);
    }

    private static void repliesWithoutPayload() {
        Check.sentence("Terms", "(all replies without payload unless it is said)");
        Client c = new Client(1);
        Check.due("31 for 83", c.send(83), Bytes.frame(31));
        Check.due("31 for a request", c.send(16, 98), Bytes.frame(31));
        Check.due("115 for 147", c.send(147), Bytes.frame(115));
        Check.due("17 for a request out of step", c.send(information(3, 3), 98), Bytes.frame(17));
        Check.due("115 for 83", c.send(83), Bytes.frame(115));
    }

    private static void disconnecting() {
        Check.sentence("Terms", "83 without a payload: it replies 115 when it is connected, and is not any more; else 31");
        Client c = new Client(1);
        Check.due("83 at first", c.send(83), Bytes.frame(31));
        Check.due("link()", c.meter.link(), 0);
        c.connect();
        Check.due("83 when connected", c.send(83), Bytes.frame(115));
        Check.due("link() then", c.meter.link(), 0);
        Check.due("83 once more", c.send(83), Bytes.frame(31));
        c.connect();
        c.tell(96, 1, 0, 0, 0, 0);
        Check.due("83 of a reader", c.send(83), Bytes.frame(115));
        Check.due("83 once more", c.send(83), Bytes.frame(31));
        Check.due("link() at the end", c.meter.link(), 0);
    }

    private static void disconnectingWithAPayload() {
        Check.sentence("Terms", "83 without a payload");
        Check.due("83 with a payload at first", new Client(1).controlFor(83, 98), -1);
        Client on = Client.reader(1);
        Check.due("83 with a payload of a reader", on.controlFor(83, 98), -1);
        Check.due("link() of a reader", on.meter.link(), linkAt(1) + 4);
    }

    // ---- information frames

    private static void requestsWhenNotConnected() {
        Check.sentence("Terms", "An information frame with a payload: 31 when it is not connected");
        Client never = new Client(1);
        Client noMore = Client.manager(1);
        noMore.controlFor(83);
        for (int step = 0; step < 8; step++) {
            Check.due("a request at first", never.send(information(step, step), 98), Bytes.frame(31));
            Check.due("a request after 83", noMore.send(information(step, step), 98), Bytes.frame(31));
            Check.due("other numbers", never.controlFor(information(step, (step + 3) % 8), 98), 31);
        }
        Check.due("link() at first", never.meter.link(), 0);
        Check.due("link() after 83", noMore.meter.link(), 0);
        noMore.send(information(1, 1), 195, 4, 2, 0);
        Check.due("nothing is done", noMore.meter.entries(), 0);
    }

    private static void informationWithoutAPayload() {
        Check.sentence("Terms", "An information frame with a payload");
        Client off = new Client(1);
        Client on = Client.atStep(1);
        for (int s = 0; s < 8; s++) {
            for (int r = 0; r < 8; r++) {
                int control = information(s, r);
                Check.due("bare " + control + " when not connected", off.controlFor(control), -1);
                Check.due("bare " + control + " when connected", on.controlFor(control), -1);
            }
        }
        Check.due("link() when not connected", off.meter.link(), 0);
        Check.due("link() when connected", on.meter.link(), linkAt(1));
    }

    private static void numbersFrom0To7() {
        Check.sentence("Terms", "when it is, it has the numbers EXPECTED and NEXT (0 .. 7)");
        for (int steps : new int[] {0, 1, 6, 7, 8, 9, 15, 16}) {
            Client c = Client.atStep(steps);
            Check.due("EXPECTED after " + steps, c.meter.link() >> 4 & 7, steps % 8);
            Check.due("NEXT after " + steps, c.meter.link() >> 7, steps % 8);
            c.controlFor(83);
            Check.due("no numbers when it is not", c.meter.link(), 0);
        }
    }

    private static void requestsInStep() {
        Check.sentence("Terms", "If s is EXPECTED and r is NEXT: both grow by 1 (0 after 7)");
        Client c = Client.connected(1);
        for (int i = 0; i < 20; i++) {
            int step = i % 8;
            int after = (i + 1) % 8;
            Check.due("link() ahead of " + i, c.meter.link(), linkAt(step));
            Check.due("in step at " + i, c.controlFor(information(step, step), 98), information(step, after));
            Check.due("link() behind " + i, c.meter.link(), linkAt(after));
        }
    }

    private static void numbersOfTheReply() {
        Check.sentence("Terms", "and it replies an information frame, with NEXT as it was for s and EXPECTED as it is for r, and with the ANSWER to the payload");
        for (int step : new int[] {0, 1, 6, 7, 8}) {
            Client c = Client.atStep(step);
            int now = step % 8;
            int after = (step + 1) % 8;
            Check.due("reply at " + step, c.send(information(now, now), 98), Bytes.frame(information(now, after), 99));
        }
    }

    private static void theLatestOnceMore() {
        Check.sentence("Terms", "If both are one less than that (7 for 0), and it has replied an information frame since it was connected");
        for (int step = 1; step <= 9; step++) {
            Client c = Client.atStep(step - 1);
            int before = (step - 1) % 8;
            int[] latest = c.send(information(before, before), 98);
            Check.due("the answer", Bytes.frame(information(before, step % 8), 99), latest);
            Check.due("the same request once more", c.send(information(before, before), 98), latest);
            Check.due("another request with its numbers", c.send(information(before, before), 0), latest);
            Check.due("link()", c.meter.link(), linkAt(step % 8));
        }
    }

    private static void sevenIsOneLessThanZero() {
        Check.sentence("Terms", "one less than that (7 for 0)");
        Client c = Client.atStep(7);
        int[] latest = c.send(information(7, 7), 98);
        Check.due("link()", c.meter.link(), 1);
        Check.due("the reply to 7, 7", latest, Bytes.frame(information(7, 0), 99));
        Check.due("7, 7 once more", c.send(information(7, 7), 0), latest);
        Check.due("0, 0 goes on", c.controlFor(information(0, 0), 0), information(0, 1));
        Check.due("7, 7 is too old then", c.send(information(7, 7), 0), Bytes.frame(17 + 32));
    }

    private static void theLatestIsTheLatest() {
        Check.sentence("Terms", "it replies the latest such frame");
        Client c = Client.connected(1);
        c.send(information(0, 0), 98);
        int[] latest = c.send(information(1, 1), 0);
        int again = information(1, 1);
        Check.due("the second request once more", c.send(again, 98), latest);
        c.controlFor(information(5, 5), 98);
        Check.due("behind a reply without payload", c.send(again, 98), latest);
        c.controlFor(0, 98);
        Check.due("behind a frame that is nothing", c.send(again, 98), latest);
        c.put(1, 2, 3);
        c.meter.deliver(false);
        Check.due("behind no frame", c.send(again, 98), latest);
        Check.due("behind itself", c.send(again, 98), latest);
        Check.due("a request behind that", c.send(information(2, 2), 98), Bytes.frame(information(2, 3), 99));
        Check.due("which is the latest now", c.send(information(2, 2), 0), Bytes.frame(information(2, 3), 99));
    }

    private static void noLatestSinceItWasConnected() {
        Check.sentence("Terms", "and it has replied an information frame since it was connected");
        int seven = information(7, 7);
        Client c = Client.connected(1);
        Check.due("7, 7 at first", c.send(seven, 98), Bytes.frame(17));
        Check.due("7, 7 behind a reply that is no information", c.send(seven, 98), Bytes.frame(17));
        c.tell(98);
        c.connect();
        Check.due("7, 7 when connected once more", c.send(seven, 98), Bytes.frame(17));
        c.tell(98);
        c.controlFor(83);
        c.connect();
        Check.due("7, 7 when connected after 83", c.send(seven, 98), Bytes.frame(17));
        c = Client.atStep(8);
        c.connect();
        Check.due("7, 7 when connected after eight requests", c.send(seven, 98), Bytes.frame(17));
        Check.due("link()", c.meter.link(), 1);
        c = Client.atStep(8);
        Check.due("7, 7 after eight requests", c.send(seven, 98), Bytes.frame(information(7, 0), 216, 2));
    }

    private static void aLostLatest() {
        Check.sentence("Terms", "(also one that was lost)");
        Client c = Client.connected(1);
        c.askInVain(96, 2, 0x12, 0x34, 0x56, 0x78);
        Check.due("asked again: the lost frame", c.ask(98), 97, 0);
        Check.due("nothing was released", c.meter.link(), linkAt(1) + 8);
        c.askInVain(195, 4, 2, 0);
        c.askInVain(195, 4, 2, 0);
        Check.due("a capture asked three times", c.ask(195, 4, 2, 0), 199, 0);
        Check.due("is made once", c.meter.entries(), 1);
    }

    private static void nothingElseChanges() {
        Check.sentence("Terms", "once more, and nothing else changes");
        Client c = Client.manager(12);
        for (int i = 0; i < 5; i++) {
            c.capture();
        }
        int[] block = c.get(4, 2);
        int again = information(6, 6);
        int[][] payloads = {{98}, {96, 1, 0, 0, 0, 0}, {0}, {195, 4, 2, 0}, {195, 4, 1, 0}, {192, 2, 1}, {192, 2, 9},
            {192, 1, 0, 1, 0}, {193, 1, 2, 5, 1, 2, 3, 4}};
        for (int[] payload : payloads) {
            c.put(payload);
            c.meter.frame(again);
            Check.due("how many bytes", c.meter.deliver(false), block.length + 9);
            Check.due("its control", c.meter.reply(3), information(6, 7));
            Check.due("its block", c.meter.reply(9), 1);
        }
        Check.due("link()", c.meter.link(), linkAt(7) + 8);
        Check.due("entries()", c.meter.entries(), 5);
        Check.due("register(1)", c.meter.register(1), 0);
        Check.due("the long value stays", c.nextBlock(1)[3], 2);
    }

    private static void otherwise() {
        Check.sentence("Terms", "Otherwise it replies control 17 + 32 EXPECTED");
        for (int step = 0; step < 10; step++) {
            Client c = Client.atStep(step);
            int now = step % 8;
            int before = (step + 7) % 8;
            for (int s = 0; s < 8; s++) {
                for (int r = 0; r < 8; r++) {
                    boolean inStep = s == now && r == now;
                    boolean again = s == before && r == before && step > 0;
                    if (!inStep && !again) {
                        Check.due("s " + s + ", r " + r + " at " + step, c.controlFor(information(s, r), 98), 17 + 32 * now);
                    }
                }
            }
            Check.due("link() after all that", c.meter.link(), linkAt(now));
            Check.due("the whole reply", c.send(information((now + 1) % 8, now), 98), Bytes.frame(17 + 32 * now));
        }
    }

    private static void bothHaveToBeOneLess() {
        Check.sentence("Terms", "If both are one less than that");
        Client c = Client.manager(1);
        c.capture();
        int refusal = 17 + 32 * 2;
        Check.due("s alone is one less", c.controlFor(information(1, 2), 98), refusal);
        Check.due("r alone is one less", c.controlFor(information(2, 1), 98), refusal);
        Check.due("both are two less", c.controlFor(information(0, 0), 98), refusal);
        Check.due("both are one more", c.controlFor(information(3, 3), 98), refusal);
        Check.due("both are one less", c.controlFor(information(1, 1), 98), information(1, 2));
        Check.due("both are as they should be", c.controlFor(information(2, 2), 0), information(2, 3));
        Check.due("link()", c.meter.link(), linkAt(3) + 8);
    }

    private static void allOtherFrames() {
        Check.sentence("Terms", "All other frames: nothing");
        for (int control = 0; control < 256; control++) {
            boolean information = control / 16 % 2 == 1 && control % 2 == 0;
            Client off = new Client(1);
            Client on = Client.reader(1);
            if (control != 147 && control != 83) {
                Check.due("bare " + control + ", not connected", off.controlFor(control), -1);
                Check.due("bare " + control + ", connected", on.controlFor(control), -1);
            }
            if (!information) {
                Check.due("full " + control + ", not connected", off.controlFor(control, 98), -1);
                Check.due("full " + control + ", connected", on.controlFor(control, 98), -1);
            }
            Check.due("link() not connected after " + control, off.meter.link(), 0);
            Check.due("link() connected after " + control, on.meter.link(), linkAt(1) + 4);
        }
    }

    // ---- lost replies

    private static void lostRepliesAreEmpty() {
        Check.sentence("Promise 15", "but the reply is empty then");
        Client c = new Client(1);
        for (int control : new int[] {147, 147, 83, 83}) {
            c.meter.frame(control);
            Check.due("lost " + control, c.meter.deliver(true), 0);
            Check.refused("reply(0)", IndexOutOfBoundsException.class, () -> c.meter.reply(0));
        }
        c.connect();
        Check.due("a reply that comes", c.meter.reply(6), 126);
        c.put(98);
        c.meter.ask();
        Check.due("a lost answer", c.meter.deliver(true), 0);
        Check.refused("reply(0) then", IndexOutOfBoundsException.class, () -> c.meter.reply(0));
        c.connect();
        Check.due("nothing that is lost", c.meter.deliver(true), 0);
        Check.refused("reply(0) at the end", IndexOutOfBoundsException.class, () -> c.meter.reply(0));
    }

    private static void theMeterDoesAllTheSame() {
        Check.sentence("Promise 15", "If lost is true, the meter does all the same");
        Client c = new Client(12);
        c.meter.frame(147);
        c.meter.deliver(true);
        Check.due("link() after a lost 147", c.meter.link(), 1);
        c.askInVain(96, 2, 0x12, 0x34, 0x56, 0x78);
        Check.due("link() after a lost 96", c.meter.link(), linkAt(1) + 8);
        inVain(c, information(1, 1), 193, 1, 2, 5, 1, 2, 3, 4);
        Check.due("register(1) after a lost 193", c.meter.register(1), 0x01020304);
        inVain(c, information(2, 2), 195, 4, 2, 0);
        Check.due("entries() after a lost 195", c.meter.entries(), 1);
        for (int step = 3; step < 7; step++) {
            inVain(c, information(step, step), 195, 4, 2, 0);
        }
        inVain(c, information(7, 7), 192, 1, 4, 2, 0);
        c.put(192, 2, 1);
        c.meter.frame(information(0, 0));
        c.meter.deliver(false);
        Check.due("the block behind a lost one", c.meter.reply(9), 2);
        inVain(c, information(1, 1), 98);
        Check.due("link() after a lost 98", c.meter.link(), linkAt(2));
        c.meter.frame(83);
        c.meter.deliver(true);
        Check.due("link() after a lost 83", c.meter.link(), 0);
    }

    private static void inVain(Client c, int control, int... payload) {
        c.put(payload);
        c.meter.frame(control);
        c.meter.deliver(true);
    }

    private static void nothingComesToTheAsker() {
        Check.sentence("Promise 15", "and nothing comes to the asker");
        Client c = Client.atStep(2);
        c.meter.frame(147);
        c.meter.deliver(true);
        Check.due("the asker is at 2 behind a lost 115", c.controlForAsking(98), 17);
        c = Client.atStep(2);
        c.askInVain(98);
        Check.due("the asker is at 2 behind a lost answer", c.controlForAsking(98), information(2, 3));
        Check.due("and at 3 when it came", c.controlForAsking(98), information(3, 4));
        c = Client.atStep(2);
        c.meter.frame(83);
        c.meter.deliver(true);
        c.meter.frame(147);
        c.meter.deliver(true);
        Check.due("the asker is at 2 behind two lost ones", c.controlForAsking(98), 17);
    }

    // ---- the asker

    private static void theAskerAtFirst() {
        Check.sentence("Terms", "THE ASKER has the numbers S and R, 0 at first");
        Client c = new Client(1);
        c.meter.frame(147);
        c.meter.deliver(true);
        Check.due("the first request", c.controlForAsking(98), 48);
    }

    private static void theAskerAt115() {
        Check.sentence("Terms", "they become 0 when a reply with control 115 comes");
        for (int step = 1; step <= 8; step++) {
            Client c = Client.atStep(step);
            c.connect();
            Check.due("behind 115 for 147", c.controlForAsking(98), 48);
            c = Client.atStep(step);
            c.controlFor(83);
            c.meter.frame(147);
            c.meter.deliver(true);
            Check.due("behind 115 for 83", c.controlForAsking(98), 48);
        }
        Client c = Client.atStep(3);
        Check.due("17 is none", c.controlFor(information(6, 6), 98), 17 + 96);
        Check.due("the asker is at 3 still", c.controlForAsking(98), information(3, 4));
        c = Client.atStep(3);
        c.meter.frame(83);
        c.meter.deliver(true);
        Check.due("31 is none", c.controlFor(83), 31);
        c.meter.frame(147);
        c.meter.deliver(true);
        Check.due("the asker is at 3 behind 31", c.controlForAsking(98), 17);
    }

    private static void theAskerInStep() {
        Check.sentence("Terms", "when an information frame comes with s = R and r = S + 1 (0 after 7), both grow by 1");
        Client c = Client.connected(1);
        Check.due("asked for by frame()", c.controlFor(information(0, 0), 98), information(0, 1));
        Check.due("it is at 1 then", c.controlForAsking(98), information(1, 2));
        Check.due("the latest once more", c.controlFor(information(1, 1), 98), information(1, 2));
        Check.due("it counted that once", c.controlForAsking(98), information(2, 3));
    }

    private static void theAskerAfterSeven() {
        Check.sentence("Terms", "both grow by 1 (0 after 7)");
        Client c = Client.connected(1);
        for (int i = 0; i < 20; i++) {
            Check.due("asked at " + i, c.controlForAsking(98), information(i % 8, (i + 1) % 8));
        }
    }

    private static void theAskerOutOfStep() {
        Check.sentence("Terms", "when an information frame comes with s = R and r = S + 1");
        for (int asker = 0; asker < 8; asker++) {
            for (int ahead = 1; ahead < 8; ahead++) {
                Client c = Client.atStep(asker);
                for (int i = 0; i < ahead; i++) {
                    inVain(c, information((asker + i) % 8, (asker + i) % 8), 98);
                }
                int step = (asker + ahead) % 8;
                int after = (step + 1) % 8;
                Check.due("a frame that comes too late", c.controlFor(information(step, step), 98), information(step, after));
                // Eight on, the asker's numbers are those that the meter expects again.
                int want = ahead == 7 ? information(asker, (asker + 1) % 8) : 17 + 32 * after;
                Check.due("the asker is where it was", c.controlForAsking(98), want);
            }
        }
    }

    // ---- promise 16

    private static void bytesOfTheReply() {
        Check.sentence("Promise 16", "Byte i of the reply");
        Client c = Client.connected(1);
        int[] due = Bytes.frame(115);
        for (int i = 0; i < due.length; i++) {
            Check.due("reply(" + i + ")", c.meter.reply(i), due[i]);
        }
        c.put(1, 2, 3);
        Check.due("reply(6) when the line is longer", c.meter.reply(6), 126);
        c.meter.clear();
        c.meter.run(5);
        Check.due("reply(3) after other calls", c.meter.reply(3), 115);
    }

    private static void noSuchByteOfTheReply() {
        Check.sentence("Promise 16", "IndexOutOfBoundsException when there is none");
        Client c = Client.manager(12);
        for (int i = 0; i < 4; i++) {
            c.capture();
        }
        for (int[] payload : new int[][] {{192, 1, 4, 2, 0}, {192, 1, 1, 2, 0}, {98}, {0}}) {
            c.put(payload);
            c.meter.ask();
            int size = c.meter.deliver(false);
            Check.due("the last byte of " + size, c.meter.reply(size - 1), 126);
            for (int i : new int[] {-1, size, size + 1, 53, 79, 80, Integer.MIN_VALUE, Integer.MAX_VALUE}) {
                Check.refused("reply(" + i + ") of " + size, IndexOutOfBoundsException.class, () -> c.meter.reply(i));
            }
        }
    }
}
