/** Promises 15 and 16: frames, their numbers, what is lost, and the association. */
public final class DeliverTest {
    public static void main(String[] args) {
        deliveringNothing();
        connecting();
        disconnecting();
        otherFrames();
        numbersInStep();
        numbersOutOfStep();
        theLatestOnceMore();
        noLatestAfterConnecting();
        lostReplies();
        whatTheAskerHears();
        replies();
        associating();
        withoutAssociation();
        allOthers();
        Check.end();
    }

    private static void deliveringNothing() {
        Client c = new Client(1);
        Check.due("deliver of an empty line", c.meter.deliver(false), 0);
        c.put(1, 2, 3);
        Check.due("deliver of no frame", c.meter.deliver(false), 0);
        Check.due("the line is empty then", c.meter.put(0), 1);
        c.meter.clear();
        c.send(147);
        c.put(126, 126);
        Check.due("deliver of no frame after a reply", c.meter.deliver(false), 0);
        Check.refused("the reply is empty then", IndexOutOfBoundsException.class, () -> c.meter.reply(0));
        Check.due("nothing else changed", c.meter.link(), 1);
    }

    private static void connecting() {
        Client c = Client.manager(1);
        Check.due("reply to 147", c.send(147), Bytes.frame(115));
        Check.due("link() after connecting once more", c.meter.link(), 1);
        Check.due("the asker begins at 0 too", c.ask(98), 99);
        Check.due("link() then", c.meter.link(), 1 + 16 + 128);
    }

    private static void disconnecting() {
        Client c = new Client(1);
        Check.due("83 when not connected", c.send(83), Bytes.frame(31));
        c.send(147);
        c.ask(0);
        Check.due("83 when connected", c.send(83), Bytes.frame(115));
        Check.due("link() then", c.meter.link(), 0);
        Check.due("83 once more", c.send(83), Bytes.frame(31));
        Check.due("a request when not connected", c.send(16, 98), Bytes.frame(31));
        Check.due("a request that would be the latest", c.send(16 + 14 + 224, 98), Bytes.frame(31));
        c.send(147);
        Check.due("connected anew", c.ask(192, 1, 0, 1, 0), 216, 1);
    }

    private static void otherFrames() {
        for (int control = 0; control < 256; control++) {
            Client off = new Client(1);
            Client on = Client.connected(1);
            boolean information = control / 16 % 2 == 1 && control % 2 == 0;
            int bareOff = control == 147 ? 115 : control == 83 ? 31 : -1;
            int bareOn = control == 147 || control == 83 ? 115 : -1;
            Check.due("bare " + control + ", not connected", Client.controlOf(off.send(control)), bareOff);
            Check.due("bare " + control + ", connected", Client.controlOf(on.send(control)), bareOn);
            off = new Client(1);
            on = Client.connected(1);
            int fullOn = !information ? -1 : control == 16 ? 48 : 17;
            Check.due("full " + control + ", not connected", Client.controlOf(off.send(control, 98)), information ? 31 : -1);
            Check.due("full " + control + ", connected", Client.controlOf(on.send(control, 98)), fullOn);
            Check.due("link() after full " + control, on.meter.link(), control == 16 ? 1 + 16 + 128 : 1);
        }
    }

    private static void numbersInStep() {
        Client c = Client.connected(1);
        for (int i = 0; i < 20; i++) {
            int s = i % 8;
            int after = (i + 1) % 8;
            Check.due("in step at " + i, c.send(16 + 2 * s + 32 * s, 98), Bytes.frame(16 + 2 * s + 32 * after, 99));
            Check.due("link() at " + i, c.meter.link(), 1 + 16 * after + 128 * after);
        }
    }

    private static void numbersOutOfStep() {
        for (int steps = 0; steps < 10; steps++) {
            Client c = Client.connected(1);
            for (int i = 0; i < steps; i++) {
                c.ask(0);
            }
            int now = steps % 8;
            int before = (steps + 7) % 8;
            for (int s = 0; s < 8; s++) {
                for (int r = 0; r < 8; r++) {
                    boolean inStep = s == now && r == now;
                    boolean again = s == before && r == before && steps > 0;
                    if (!inStep && !again) {
                        Check.due("s " + s + ", r " + r + " at " + steps, c.send(16 + 2 * s + 32 * r, 98),
                            Bytes.frame(17 + 32 * now));
                    }
                }
            }
            Check.due("link() after all that", c.meter.link(), 1 + 16 * now + 128 * now);
        }
    }

    private static void theLatestOnceMore() {
        Client c = Client.manager(1);
        int[] first = c.send(16 + 2 + 32, 195, 4, 2, 0);
        Check.due("a capture", first, Bytes.frame(16 + 2 + 64, 199, 0));
        Check.due("the same once more", c.send(16 + 2 + 32, 195, 4, 2, 0), first);
        Check.due("another payload, the same reply", c.send(16 + 2 + 32, 98), first);
        Check.due("once more behind a refusal", Client.controlOf(c.send(16, 98)), 17 + 64);
        Check.due("the latest is what it was", c.send(16 + 2 + 32, 98), first);
        Check.due("one capture alone", c.meter.entries(), 1);
        Check.due("link() is that of a manager", c.meter.link(), 1 + 8 + 32 + 256);
        for (int i = 2; i < 8; i++) {
            c.send(16 + 34 * i, 0);
        }
        Check.due("7 is one less than 0", c.send(16 + 34 * 7, 98), Bytes.frame(16 + 2 * 7, 216, 2));
        Check.due("link() at 0 again", c.meter.link(), 1 + 8);
    }

    private static void noLatestAfterConnecting() {
        Client c = Client.connected(1);
        Check.due("7, 7 at first", c.send(16 + 34 * 7, 98), Bytes.frame(17));
        c.ask(98);
        c.send(147);
        Check.due("7, 7 after connecting once more", c.send(16 + 34 * 7, 98), Bytes.frame(17));
        c.ask(98);
        c.send(83);
        c.send(147);
        Check.due("7, 7 after a disconnection", c.send(16 + 34 * 7, 98), Bytes.frame(17));
    }

    private static void lostReplies() {
        Client c = new Client(1);
        c.meter.frame(147);
        Check.due("lost connecting", c.meter.deliver(true), 0);
        Check.due("it is connected all the same", c.meter.link(), 1);
        c.askInVain(96, 2, 0x12, 0x34, 0x56, 0x78);
        Check.refused("the reply is empty", IndexOutOfBoundsException.class, () -> c.meter.reply(0));
        Check.due("it is associated all the same", c.meter.link(), 1 + 8 + 16 + 128);
        Check.due("the line is empty", c.meter.put(0), 1);
        c.meter.clear();
        Check.due("asked again: the lost frame", c.ask(98), 97, 0);
        Check.due("nothing was released", c.meter.link(), 1 + 8 + 16 + 128);
        c.askInVain(195, 4, 2, 0);
        c.askInVain(195, 4, 2, 0);
        Check.due("a capture asked three times", c.ask(195, 4, 2, 0), 199, 0);
        Check.due("is made once", c.meter.entries(), 1);
        c.meter.frame(83);
        c.meter.deliver(true);
        Check.due("lost disconnecting", c.meter.link(), 0);
    }

    private static void whatTheAskerHears() {
        Client c = Client.connected(1);
        c.ask(0);
        c.ask(0);
        c.meter.frame(147);
        c.meter.deliver(true);
        Check.due("the asker is at 2 still", Client.controlOf(asked(c)), 17);
        c.send(147);
        Check.due("the asker is at 0", Client.controlOf(asked(c)), 48);
        c.send(83);
        Check.due("115 of disconnecting makes it 0 too", Client.controlOf(asked(c)), 31);
        c.meter.frame(147);
        c.meter.deliver(true);
        Check.due("so it is at 0 now", Client.controlOf(asked(c)), 48);
        c.send(16 + 34, 0);
        Check.due("it hears frames that it did not ask for", Client.controlOf(asked(c)), 16 + 4 + 96);
        c.send(16 + 68, 0);
        Check.due("but counts none twice", Client.controlOf(asked(c)), 16 + 6 + 128);
        c.put(98);
        c.meter.frame(16 + 34 * 4);
        c.meter.deliver(true);
        c.put(98);
        c.meter.frame(16 + 34 * 5);
        c.meter.deliver(false);
        Check.due("it counts no frame ahead of its own", Client.controlOf(asked(c)), 17 + 32 * 6);
    }

    private static int[] asked(Client c) {
        c.put(98);
        c.meter.ask();
        return c.deliver();
    }

    private static void replies() {
        Client c = new Client(1);
        c.send(147);
        int[] due = Bytes.frame(115);
        for (int i = 0; i < due.length; i++) {
            Check.due("reply(" + i + ")", c.meter.reply(i), due[i]);
        }
        for (int i : new int[] {-1, 7, 8, 79, 80, Integer.MIN_VALUE, Integer.MAX_VALUE}) {
            Check.refused("reply(" + i + ")", IndexOutOfBoundsException.class, () -> c.meter.reply(i));
        }
        c.put(1);
        Check.due("put leaves the reply", c.meter.reply(6), 126);
    }

    private static void associating() {
        Client c = Client.connected(1);
        Check.due("a reader with any bytes", c.ask(96, 1, 9, 9, 9, 9), 97, 0);
        Check.due("link()", c.meter.link() >> 2 & 3, 1);
        Check.due("a manager with a wrong byte", c.ask(96, 2, 0x12, 0x34, 0x56, 0x79), 97, 1);
        Check.due("association is none", c.meter.link() >> 2 & 3, 0);
        Check.due("a manager", c.ask(96, 2, 0x12, 0x34, 0x56, 0x78), 97, 0);
        Check.due("association is 2", c.meter.link() >> 2 & 3, 2);
        Check.due("too short is all others", c.ask(96, 1, 0, 0, 0), 216, 2);
        Check.due("too long is all others", c.ask(96, 1, 0, 0, 0, 0, 0), 216, 2);
        Check.due("98 too long is all others", c.ask(98, 0), 216, 2);
        Check.due("association is 2 still", c.meter.link() >> 2 & 3, 2);
        for (int l : new int[] {0, 3, 4, 255}) {
            Check.due("association " + l, c.ask(96, l, 0x12, 0x34, 0x56, 0x78), 97, 1);
            Check.due("is none", c.meter.link() >> 2 & 3, 0);
            c.ask(96, 1, 0, 0, 0, 0);
        }
        Check.due("released", c.ask(98), 99);
        Check.due("association is none again", c.meter.link() >> 2 & 3, 0);
        Check.due("released once more", c.ask(98), 99);
        int[] secret = {0x12, 0x34, 0x56, 0x78};
        for (int i = 0; i < 4; i++) {
            int[] payload = {96, 2, secret[0], secret[1], secret[2], secret[3]};
            payload[2 + i] ^= 128;
            Check.due("secret with byte " + i + " spoilt", c.ask(payload), 97, 1);
        }
    }

    private static void withoutAssociation() {
        Client c = Client.connected(1);
        for (int first : new int[] {192, 193, 195}) {
            for (int size = 1; size <= 14; size++) {
                int[] payload = new int[size];
                payload[0] = first;
                Check.due(first + " of " + size + " without association", c.ask(payload), 216, 1);
            }
        }
        Check.due("194 without association", c.ask(194, 1, 0, 1, 0), 216, 2);
    }

    private static void allOthers() {
        Client c = Client.manager(1);
        for (int first = 0; first < 256; first++) {
            if (first != 98) {
                Check.due(first + " alone", c.ask(first), 216, 2);
            }
        }
        Check.due("get too short", c.ask(192, 1, 0, 1), 216, 2);
        Check.due("get too long", c.ask(192, 1, 0, 1, 0, 0), 216, 2);
        Check.due("get with a wrong choice", c.ask(192, 1, 0, 1, 2), 216, 2);
        Check.due("get chosen without bounds", c.ask(192, 1, 4, 2, 1), 216, 2);
        Check.due("get not chosen with bounds", c.ask(192, 1, 4, 2, 0, 0, 0, 0, 0, 0, 0, 0, 0), 216, 2);
        Check.due("bounds too short", c.ask(192, 1, 4, 2, 1, 0, 0, 0, 0, 0, 0, 0), 216, 2);
        Check.due("bounds too long", c.ask(192, 1, 4, 2, 1, 0, 0, 0, 0, 0, 0, 0, 0, 0), 216, 2);
        Check.due("get of a wrong kind", c.ask(192, 3, 0, 1, 0), 216, 2);
        Check.due("kind 0", c.ask(192, 0, 0), 216, 2);
        Check.due("next block too short", c.ask(192, 2), 216, 2);
        Check.due("next block too long", c.ask(192, 2, 1, 0), 216, 2);
        Check.due("set too short", c.ask(193, 0), 216, 2);
        Check.due("act too short", c.ask(195, 1, 1), 216, 2);
        Check.due("act too long", c.ask(195, 1, 1, 0, 0), 216, 2);
    }
}
