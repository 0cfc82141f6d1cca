/** Terms: packets, which of them a host takes, how a message is cut, and idents. */
public final class PacketTest {
    private static final int[] ANSWER = {0, 0, 0, 0, 77, 1, 2};
    private static final Due due = new Due();

    public static void main(String[] args) {
        headOfAPacket();
        lengthIsThatOfTheRow();
        elevenAtLeast();
        shortPacketIsNotFilledUp();
        rightCheck();
        senderAndMeant();
        bytesThatDoNotMatter();
        protocolsThatNobodyTakes();
        messageOf24And25And48();
        identGoesRound();
        identIsPerMessage();
        due.end();
    }

    private static void headOfAPacket() {
        Lab lab = new Lab(due).meet();
        lab.x.ping(1, 5, 1);
        int[] want = {16, 17, 8, 16, 1, 0, 64, 1, 0, 0, 0, 2, 1, 8, 0, 0, 0, 5, 5};
        Frames.seal(want);
        lab.frameIs(0, 0, want);
    }

    /** "with a length that is just that of the row" */
    private static void lengthIsThatOfTheRow() {
        Lab lab = new Lab(due).meet();
        for (int length : new int[] {0, 11, 16, 18, 34, 255}) {
            lab.arrive(0, with(3, length));
            lab.hostIs(0, Lab.PONGS, 1);
        }
        lab.arrive(0, with(3, 17));
        lab.hostIs(0, Lab.PONGS, 2);
        // The longest row: 34.
        int[] longest = Lab.packet(0, 9, 0, 1, Model.join(ANSWER, Lab.bytes(3, 17)));
        due.is("its length", longest[3], 34);
        lab.arrive(0, longest);
        lab.hostIs(0, Lab.PONGS, 3);
        for (int length : new int[] {33, 35}) {
            int[] f = longest.clone();
            f[3] = length;
            Frames.seal(f);
            lab.arrive(0, f);
            lab.hostIs(0, Lab.PONGS, 3);
        }
    }

    private static int[] with(int at, int value) {
        int[] f = Lab.packet(0, 9, 0, 1, ANSWER);
        f[at] = value;
        Frames.seal(f);
        return f;
    }

    /** "11 at least": one of 11 is taken, one of 4 (an ASK that became one on the way) is not. */
    private static void elevenAtLeast() {
        Lab lab = new Lab(due).meet();
        lab.arrive(0, Lab.packet(0, 9, 1, 1, 5));
        lab.hostIs(0, Lab.SLOTS, 1);
        lab = new Lab(due);
        lab.x.ping(1, 0, 0);
        lab.rewrite(0, 16, 17, 8, 4, 17, 2, 1);
        due.is("the type", lab.x.carry(0), 8);
        lab.hostIs(0, Lab.SLOTS, 0);
        lab.hostIs(0, Lab.KNOWN, 0);
        lab.flying(1, 0);
    }

    /** What came before is no part of a packet that is too short. */
    private static void shortPacketIsNotFilledUp() {
        Lab lab = new Lab(due).meet();
        lab.x.tick(30);
        lab.x.ping(1, 0, 0);
        // With the rest of the head that host 0 got last, 15, 0, 0, 64 and so on, the check would be right.
        lab.rewrite(0, 16, 17, 8, 4, 0, 11, 64);
        due.is("the type", lab.x.carry(0), 8);
        lab.hostIs(0, Lab.SLOTS, 0);
        lab.hostIs(0, Lab.PONGS, 1);
        lab.flying(1, 0);
    }

    /** "a right check": no change of one byte of the 10 gets through. */
    private static void rightCheck() {
        for (int at = 3; at < 13; at++) {
            Lab lab = new Lab(due).meet();
            for (int mask : new int[] {1, 128}) {
                int[] f = Lab.packet(0, 9, 0, 1, ANSWER);
                f[at] ^= mask;
                lab.arrive(0, f);
            }
            lab.hostIs(0, Lab.PONGS, 1);
            lab.hostIs(0, Lab.SLOTS, 0);
        }
        // "the check of these 10 bytes is 0": one over all bytes is not that.
        Lab lab = new Lab(due).meet();
        int[] f = Lab.packet(0, 9, 128, 1, 1, 2, 3, 4);
        int[] all = Model.part(f, 3, f.length);
        Frames.putPair(all, 6, 0);
        Frames.putPair(f, 9, Model.check(all));
        lab.arrive(0, f);
        lab.hostIs(0, Lab.SLOTS, 0);
    }

    /** "the other host as sender, and itself as meant" */
    private static void senderAndMeant() {
        for (int h = 0; h < 2; h++) {
            Lab lab = new Lab(due).meet();
            int pongs = lab.x.host(h, Lab.PONGS);
            int[][] wrong = {{1 + h, 1 + h}, {0, 1 + h}, {3, 1 + h}, {2 - h, 2 - h}, {2 - h, 0}, {2 - h, 255},
                {1 + h, 2 - h}};
            for (int[] addresses : wrong) {
                lab.arrive(h, between(h, addresses[0], addresses[1]));
                lab.hostIs(h, Lab.PONGS, pongs);
            }
            lab.arrive(h, between(h, 2 - h, 1 + h));
            lab.hostIs(h, Lab.PONGS, pongs + 1);
        }
    }

    private static int[] between(int h, int sender, int meant) {
        int[] f = Lab.packet(h, 9, 0, 1, ANSWER);
        f[11] = sender;
        f[12] = meant;
        Frames.seal(f);
        return f;
    }

    /** "(byte 3 and 5 do not matter)" */
    private static void bytesThatDoNotMatter() {
        Lab lab = new Lab(due).meet();
        int pongs = 1;
        for (int value : new int[] {0, 1, 63, 65, 255}) {
            lab.arrive(0, with(6, value));
            lab.arrive(0, with(8, value));
            pongs += 2;
            lab.hostIs(0, Lab.PONGS, pongs);
        }
        // And what is sent next has nothing of it.
        lab.x.connect(0, 1);
        lab.x.ping(0, 1, 0);
        lab.went(1, "S 100 0 24; echo 8 token 1 size 5");
    }

    private static void protocolsThatNobodyTakes() {
        Lab lab = new Lab(due).meet();
        for (int protocol : new int[] {0, 2, 5, 7, 255}) {
            lab.arrive(0, Lab.packet(0, 9, 0, protocol, 8, 0, 242, 248, 5, 7));
            lab.hostIs(0, Lab.SLOTS, 0);
        }
        lab.hostIs(0, Lab.PONGS, 1);
        lab.went(1, "");
        // Pieces of them are gathered like others.
        lab.arrive(0, Lab.packet(0, 9, 128, 255, 1, 2, 3, 4));
        lab.hostIs(0, Lab.SLOTS, 1);
        lab.arrive(0, Lab.packet(0, 9, 1, 255, 5));
        lab.hostIs(0, Lab.SLOTS, 0);
        lab.went(1, "");
    }

    /** "A MESSAGE of more than 24 bytes (at most 48) goes as a packet of its first 24 and one of the rest." */
    private static void messageOf24And25And48() {
        Lab lab = new Lab(due).meet();
        lab.x.ping(0, 5, 19);
        lab.flying(1, 1);
        due.is("24 are one packet", lab.x.octet(1, 0, 3), 34);
        due.is("offset 0, no MORE", lab.x.octet(1, 0, 5), 0);
        lab.carryAll();
        lab.hostIs(0, Lab.PONGS, 2);
        for (int n : new int[] {20, 43}) {
            int ident = lab.x.host(0, Lab.IDENT);
            int[] whole = Model.join(new int[] {8, 0, 0, 0, 5}, Lab.bytes(5, n));
            Frames.putPair(whole, 2, Model.check(whole));
            lab.x.ping(0, 5, n);
            lab.flying(1, 2);
            lab.frameIs(1, 0, Lab.packet(1, ident, 128, 1, Model.part(whole, 0, 24)));
            lab.frameIs(1, 1, Lab.packet(1, ident, 6, 1, Model.part(whole, 24, 5 + n)));
            lab.carryAll();
        }
        lab.hostIs(0, Lab.PONGS, 4);
        lab.hostIs(0, Lab.TOKEN, 5);
    }

    /** "Each message that a host sends has the next IDENT (0 .. 255, round; 0 first)." */
    private static void identGoesRound() {
        Lab lab = new Lab(due);
        lab.hostIs(0, Lab.IDENT, 0);
        // Those that find the line full are lost, but each had its ident.
        for (int i = 0; i < 254; i++) {
            lab.x.ping(0, 1, 0);
        }
        lab.hostIs(0, Lab.IDENT, 254);
        lab.x.carry(1);
        lab.x.carry(0);
        due.is("the first", lab.x.octet(1, 0, 4), 0);
        due.is("the fourth", lab.x.octet(1, 3, 4), 3);
        lab.drop(1);
        lab.x.ping(0, 1, 0);
        due.is("254", lab.x.octet(1, 0, 4), 254);
        lab.hostIs(0, Lab.IDENT, 255);
        lab.x.ping(0, 1, 43);
        due.is("255", lab.x.octet(1, 1, 4), 255);
        due.is("255 for both pieces", lab.x.octet(1, 2, 4), 255);
        lab.hostIs(0, Lab.IDENT, 0);
        lab.x.ping(0, 1, 0);
        due.is("0 again", lab.x.octet(1, 3, 4), 0);
        lab.hostIs(0, Lab.IDENT, 1);
        lab.hostIs(1, Lab.IDENT, 0);
    }

    private static void identIsPerMessage() {
        Lab lab = new Lab(due);
        // ASK frames are no messages.
        lab.x.ping(0, 1, 0);
        lab.x.carry(1);
        lab.hostIs(1, Lab.IDENT, 0);
        lab.hostIs(0, Lab.IDENT, 1);
        lab.x.carry(0);
        lab.hostIs(0, Lab.IDENT, 1);
        // An echo's answer is one of the host that answers.
        lab.x.carry(1);
        lab.hostIs(1, Lab.IDENT, 1);
        due.is("its ident", lab.x.octet(0, 0, 4), 0);
        lab.x.connect(1, 2);
        due.is("segments count along", lab.x.octet(0, 1, 4), 1);
        lab.hostIs(1, Lab.IDENT, 2);
    }
}
