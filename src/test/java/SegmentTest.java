/** Terms: the form of segments, and what one does when it arrives in CLOSED, LISTEN, SYN SENT and SYN GOT. */
public final class SegmentTest {
    private static final int A = Lab.ACK, S = Lab.SYN, R = Lab.RST, F = Lab.FIN;
    private static final Due due = new Due();

    public static void main(String[] args) {
        wholeFrame();
        tenBytesAtLeast();
        fortyTwoBytesAtMost();
        otherFlags();
        allRightFlags();
        noSuchSocket();
        wrongChecks();
        checkOverAddressesAndLength();
        byteSevenDoesNotMatter();
        closed();
        closedLengthGoesRound();
        listenIsSilent();
        listenRefusesAck();
        listenBegins();
        synSentAckNumbers();
        synSentRst();
        synSentIgnores();
        synSentOpens();
        synSentMeetsSyn();
        synGotAckNumbers();
        synGotOpensWithAll();
        synGotOthers();
        due.end();
    }

    private static void wholeFrame() {
        Lab lab = new Lab(due).open();
        int ident = lab.x.host(0, Lab.IDENT);
        lab.x.send(0, 1, 200);
        int[] want = {17, 16, 8, 21, ident, 0, 64, 6, 0, 0, 0, 1, 2, 1, 16, 0, 101, 4, 77, 24, 0, 0, 0, 200};
        Frames.seal(want);
        lab.frameIs(1, 0, want);
    }

    /** A message of a segment to socket 1 of host 1 with so many bytes of data, its checksum made. */
    private static int[] message(int count) {
        int[] m = Model.join(new int[] {1, A, 0, 101, 4, 77, 24, 0, 0, 0}, Lab.bytes(1, count));
        Frames.putPair(m, 8, Model.check(Model.join(new int[] {1, 2, 6, m.length}, m)));
        return m;
    }

    /** "10 bytes and at most 32 of data (10 to 42 bytes)": 9 are none, even with a right check */
    private static void tenBytesAtLeast() {
        int[] nine = {1, A, 0, 101, 4, 77, 99, 0, 0};
        Frames.putPair(nine, 4, 1101 + Model.check(Model.join(new int[] {1, 2, 6, 9}, nine)));
        due.is("its check", Model.check(Model.join(new int[] {1, 2, 6, 9}, nine)), 0);
        Lab lab = new Lab(due).open();
        lab.arrive(1, Lab.packet(1, 0, 0, 6, nine));
        lab.arrive(1, Lab.packet(1, 0, 0, 6, 1));
        lab.is(1, Lab.WIN, 24);
        lab.went(0, "");
        lab.segment(1, A, 101, 1101, 99);
        lab.is(1, Lab.WIN, 99);
        // The same in CLOSED, where every segment is answered.
        lab = new Lab(due).meet();
        lab.arrive(1, Lab.packet(1, 0, 0, 6, nine));
        lab.went(0, "");
        lab.segment(1, A, 101, 1101, 99);
        lab.went(0, "RA 1101 101 24");
        // Nor does it count as the one before.
        lab.arrive(1, Lab.packet(1, 0, 0, 6, nine));
        lab.went(0, "");
    }

    private static void fortyTwoBytesAtMost() {
        for (int count = 33; count <= 38; count += 5) {
            Lab lab = new Lab(due).open();
            lab.twoPackets(1, 6, message(count));
            lab.hostIs(1, Lab.SLOTS, 0);
            lab.is(1, Lab.IN, 0);
            lab.went(0, "");
        }
        Lab lab = new Lab(due).open();
        lab.twoPackets(1, 6, message(32));
        lab.is(1, Lab.IN, 24);
        lab.went(0, "A 1101 125 0");
        due.is("the first byte", lab.x.read(1, 1), 1);
        lab = new Lab(due).meet();
        lab.twoPackets(1, 6, message(33));
        lab.went(0, "");
        lab.twoPackets(1, 6, message(32));
        lab.went(0, "RA 1101 133 24");
        lab.twoPackets(1, 6, message(33));
        lab.went(0, "");
    }

    /** "with other flags .. are dropped" */
    private static void otherFlags() {
        for (int other : new int[] {8, 32, 64, 128}) {
            Lab lab = new Lab(due).open();
            for (int flags : new int[] {other, other + A, other + R, other + A + S + R + F}) {
                lab.segment(1, flags, 101, 1101, 99, 65);
            }
            lab.is(1, Lab.IN, 0);
            lab.is(1, Lab.WIN, 24);
            lab.state(1, Lab.OPEN);
            lab.went(0, "");
        }
        Lab lab = new Lab(due).meet();
        lab.segment(1, A + 8, 101, 1101, 99);
        lab.went(0, "");
    }

    /** "1 FIN, 2 SYN, 4 RST, 16 ACK, added up": each sum of these is right, and CLOSED answers those without RST */
    private static void allRightFlags() {
        for (int flags = 0; flags < 32; flags++) {
            if ((flags & 8) == 0) {
                Lab lab = new Lab(due).meet();
                lab.segment(1, flags, 500, 700, 24);
                int end = 500 + (flags & F) + (flags & S) / 2;
                lab.went(0, (flags & R) != 0 ? "" : "RA 700 " + end + " 24");
            }
        }
    }

    /** "or for no socket 1 or 2, are dropped" */
    private static void noSuchSocket() {
        Lab lab = new Lab(due).meet();
        for (int p : new int[] {0, 3, 4, 129, 255}) {
            lab.arrive(1, Lab.segmentFrame(1, p, A, 101, 1101, 24));
        }
        lab.went(0, "");
        lab.arrive(1, Lab.segmentFrame(1, 2, A, 101, 1101, 24));
        lab.went(0, "socket 2 RA 1101 101 24");
        lab.arrive(1, Lab.segmentFrame(1, 1, A, 101, 1101, 24));
        lab.went(0, "RA 1101 101 24");
    }

    private static void wrongChecks() {
        for (int at = 13; at < 24; at++) {
            Lab lab = new Lab(due).meet();
            int[] f = Lab.segmentFrame(1, 1, A, 101, 1101, 24, 65);
            f[at] ^= 2;
            lab.arrive(1, f);
            lab.went(0, "");
        }
    }

    /** "the check of sender's address, address meant, 6, length, and the segment is 0" */
    private static void checkOverAddressesAndLength() {
        int[][] heads = {{}, {2, 1, 6, 11}, {1, 2, 6, 10}, {1, 2, 6, 12}, {1, 2, 6, 21}, {1, 2, 1, 11}, {0, 0, 6, 11},
            {1, 2, 0, 0}};
        Lab lab = new Lab(due).meet();
        for (int[] head : heads) {
            lab.arrive(1, checkedWith(head));
        }
        lab.went(0, "");
        lab.arrive(1, checkedWith(new int[] {1, 2, 6, 11}));
        lab.went(0, "RA 1101 102 24");
    }

    private static int[] checkedWith(int[] head) {
        int[] m = {1, A, 0, 101, 4, 77, 24, 0, 0, 0, 65};
        int check = Model.check(Model.join(head, m));
        int[] f = Lab.packet(1, 0, 0, 6, m);
        Frames.putPair(f, 21, check);
        return f;
    }

    /** "(byte 7 does not matter)" */
    private static void byteSevenDoesNotMatter() {
        for (int value : new int[] {1, 99, 255}) {
            Lab lab = new Lab(due).open();
            int[] f = Lab.segmentFrame(1, 1, A, 101, 1101, 24, 65);
            f[20] = value;
            Frames.seal(f);
            lab.arrive(1, f);
            lab.is(1, Lab.IN, 1);
            lab.went(0, "A 1101 102 23");
        }
    }

    /** "CLOSED: nothing for RST; else RST + ACK goes with its ACK number as SEQ and SEQ + LEN as ACK number." */
    private static void closed() {
        Lab lab = new Lab(due).meet();
        lab.segment(1, S, 500, 0, 24);
        lab.went(0, "RA 0 501 24");
        lab.segment(1, F, 500, 0, 24);
        lab.went(0, "RA 0 501 24");
        lab.segment(1, A, 500, 7, 24, 1, 2, 3);
        lab.went(0, "RA 7 503 24");
        lab.segment(1, 0, 7, 8, 24);
        lab.went(0, "RA 8 7 24");
        lab.segment(1, R, 7, 8, 24);
        lab.segment(1, R + A, 7, 8, 24);
        lab.segment(1, R + S + F, 7, 8, 24, 1);
        lab.went(0, "");
        lab.socketIs(1, 0, 0, 0, 0, 0, 0, 0, 0, 4, 0, 0);
    }

    private static void closedLengthGoesRound() {
        Lab lab = new Lab(due).meet();
        lab.segment(1, S + F + A, 65534, 77, 24, 1, 2, 3);
        lab.went(0, "RA 77 3 24");
        lab.segment(1, S, 65535, 65535, 24);
        lab.went(0, "RA 65535 0 24");
        lab.segment(1, A, 65535, 1, 24);
        lab.went(0, "RA 1 65535 24");
    }

    /** "LISTEN: RST: nothing; .. else nothing" */
    private static void listenIsSilent() {
        Lab lab = new Lab(due).in(Lab.LISTEN);
        lab.segment(0, R, 7, 8, 24);
        lab.segment(0, R + S + A, 7, 8, 24);
        lab.segment(0, R + S, 7, 8, 24);
        lab.segment(0, F, 7, 8, 24);
        lab.segment(0, 0, 7, 8, 24, 1, 2);
        lab.went(1, "");
        lab.socketIs(0, Lab.LISTEN, 0, 0, 0, 0, 0, 0, 0, 4, 0, 0);
    }

    /** "ACK: RST goes with its ACK number as SEQ" */
    private static void listenRefusesAck() {
        Lab lab = new Lab(due).in(Lab.LISTEN);
        lab.segment(0, A + S, 7, 888, 24);
        lab.went(1, "R 888 0 24");
        lab.segment(0, A + F, 7, 65535, 24, 1);
        lab.went(1, "R 65535 0 24");
        lab.socketIs(0, Lab.LISTEN, 0, 0, 0, 0, 0, 0, 0, 4, 0, 0);
    }

    /** "SYN: begin; RCV is SEQ + 1, WIN its window, SYN GOT; SYN + ACK with SEQ FIRST goes" */
    private static void listenBegins() {
        Lab lab = new Lab(due).in(Lab.LISTEN);
        lab.x.tick(6);
        // Data and FIN of it do nothing; RCV goes round.
        lab.segment(0, S + F, 65535, 8, 17, 1, 2);
        lab.went(1, "SA 106 0 24");
        lab.socketIs(0, Lab.SYN_GOT, 106, 107, 0, 17, 0, 0, 4, 4, 0, 0);
        lab = new Lab(due).in(Lab.LISTEN);
        lab.segment(0, S, 65534, 8, 0);
        lab.went(1, "SA 100 65535 24");
        lab.is(0, Lab.RCV, 65535);
        lab.is(0, Lab.WIN, 0);
    }

    /** "with ACK and another ACK number than NXT: RST goes with that as SEQ (not for RST), and nothing else" */
    private static void synSentAckNumbers() {
        Lab lab = new Lab(due).in(Lab.SYN_SENT);
        lab.segment(0, S + A, 500, 100, 24);
        lab.went(1, "R 100 0 24");
        lab.segment(0, A, 500, 102, 24);
        lab.went(1, "R 102 0 24");
        lab.segment(0, S + A, 500, 0, 24);
        lab.went(1, "R 0 0 24");
        lab.segment(0, R + A, 500, 100, 24);
        lab.segment(0, R + A, 500, 102, 24);
        lab.segment(0, R + S + A, 500, 102, 24);
        lab.went(1, "");
        lab.socketIs(0, Lab.SYN_SENT, 100, 101, 0, 0, 0, 0, 4, 4, 0, 0);
    }

    /** "RST: CLOSED if it has ACK, else nothing." */
    private static void synSentRst() {
        Lab lab = new Lab(due).in(Lab.SYN_SENT);
        lab.segment(0, R, 500, 101, 24);
        lab.segment(0, R + S, 500, 101, 24);
        lab.state(0, Lab.SYN_SENT);
        lab.segment(0, R + A, 500, 101, 24);
        lab.socketIs(0, 0, 0, 0, 0, 0, 0, 0, 0, 4, 0, 0);
        lab.went(1, "");
        lab = new Lab(due).in(Lab.SYN_SENT);
        lab.segment(0, R + S + A, 500, 101, 24);
        lab.state(0, Lab.CLOSED);
        lab.went(1, "");
    }

    /** "Else nothing." */
    private static void synSentIgnores() {
        Lab lab = new Lab(due).in(Lab.SYN_SENT);
        lab.segment(0, A, 500, 101, 24, 9);
        lab.segment(0, F + A, 500, 101, 24);
        lab.segment(0, F, 500, 101, 24);
        lab.segment(0, 0, 500, 101, 24);
        lab.went(1, "");
        lab.socketIs(0, Lab.SYN_SENT, 100, 101, 0, 0, 0, 0, 4, 4, 0, 0);
    }

    /** "with ACK: UNA is NXT, TRIES are 0, the timer is off, RTO 4, OPEN, ACK goes, push" */
    private static void synSentOpens() {
        Lab lab = new Lab(due).in(Lab.SYN_SENT);
        lab.x.tick(4);
        lab.drop(1);
        lab.is(0, Lab.TRIES, 1);
        lab.is(0, Lab.RTO, 8);
        lab.segment(0, S + A + F, 500, 101, 99, 1, 2);
        lab.went(1, "A 101 501 24");
        lab.socketIs(0, Lab.OPEN, 101, 101, 501, 99, 0, 0, 0, 4, 0, 0);
        lab = new Lab(due).in(Lab.SYN_SENT);
        lab.segment(0, S + A, 65535, 101, 0);
        lab.went(1, "A 101 0 24");
        lab.socketIs(0, Lab.OPEN, 101, 101, 0, 0, 0, 0, 0, 4, 0, 0);
    }

    /** "without: SYN GOT, and SYN + ACK with SEQ FIRST goes": the timer goes on */
    private static void synSentMeetsSyn() {
        Lab lab = new Lab(due).in(Lab.SYN_SENT);
        lab.x.tick(5);
        lab.drop(1);
        lab.segment(0, S, 500, 9, 99, 1);
        lab.went(1, "SA 100 501 24");
        lab.socketIs(0, Lab.SYN_GOT, 100, 101, 501, 99, 0, 0, 7, 8, 1, 0);
    }

    /** "In SYN GOT: if its ACK number is NXT it is OPEN, else RST goes with that as SEQ, and nothing else." */
    private static void synGotAckNumbers() {
        Lab lab = new Lab(due).in(Lab.SYN_GOT);
        for (int ack : new int[] {100, 102, 0, 65535}) {
            lab.segment(0, A + F, 1101, ack, 99, 5);
            lab.went(1, "R " + ack + " 1101 24");
        }
        lab.socketIs(0, Lab.SYN_GOT, 100, 101, 1101, 24, 0, 0, 4, 4, 0, 0);
        lab.segment(0, A, 1101, 101, 99);
        lab.went(1, "");
        lab.socketIs(0, Lab.OPEN, 101, 101, 1101, 99, 0, 0, 0, 4, 0, 0);
    }

    private static void synGotOpensWithAll() {
        Lab lab = new Lab(due).in(Lab.SYN_GOT);
        lab.x.tick(4);
        lab.drop(1);
        lab.is(0, Lab.TRIES, 1);
        lab.segment(0, A + F, 1101, 101, 7, 5, 6);
        lab.went(1, "A 101 1104 22");
        lab.socketIs(0, Lab.CLOSE_WAIT, 101, 101, 1104, 7, 0, 2, 0, 4, 0, 0);
    }

    private static void synGotOthers() {
        Lab lab = new Lab(due).in(Lab.SYN_GOT);
        // What does not fit is answered.
        lab.segment(0, S, 1100, 0, 9);
        lab.segment(0, A, 1125, 101, 9);
        lab.went(1, "A 101 1101 24; A 101 1101 24");
        // Without ACK nothing; a RST that does not fit does nothing.
        lab.segment(0, 0, 1101, 101, 9);
        lab.segment(0, F, 1101, 101, 9, 1);
        lab.segment(0, R, 1100, 101, 9);
        lab.went(1, "");
        lab.socketIs(0, Lab.SYN_GOT, 100, 101, 1101, 24, 0, 0, 4, 4, 0, 0);
        lab.segment(0, R, 1101, 0, 0);
        lab.socketIs(0, 0, 0, 0, 0, 0, 0, 0, 0, 4, 0, 0);
        lab.went(1, "");
        lab = new Lab(due).in(Lab.SYN_GOT);
        lab.segment(0, S + A, 1101, 101, 9);
        lab.went(1, "R 101 1101 24");
        lab.state(0, Lab.CLOSED);
    }
}
