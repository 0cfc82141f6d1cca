/** Terms: a segment arrives in SYN GOT and later states: which fit, ACK numbers, data, FIN, and each state's end. */
public final class ArriveTest {
    private static final int A = Lab.ACK, S = Lab.SYN, R = Lab.RST, F = Lab.FIN;
    private static final int[] FROM_SYN_GOT = {Lab.SYN_GOT, Lab.OPEN, Lab.FIN_1, Lab.FIN_2, Lab.CLOSE_WAIT, Lab.BOTH,
        Lab.LAST, Lab.TIME};
    private static final Due due = new Due();

    public static void main(String[] args) {
        fitsWithoutLength();
        fitsWithLength();
        fitsByItsLastNumber();
        coveringAllDoesNotFit();
        roomOfZero();
        roomOfOne();
        fitsRoundTheEnd();
        whatDoesNotFitIsAnswered();
        rstInEachState();
        synInEachState();
        withoutAckInEachState();
        confirmation();
        ackNumberAhead();
        ackNumberOld();
        windowCounts();
        finIsConfirmed();
        lastBecomesClosed();
        earlyBytes();
        byteThatIsThereStays();
        bytesBelowRoom();
        numbersGoRound();
        finNumberRoundTheEnd();
        finEarly();
        finInPlaceOfOneThatWas();
        finBelowBytes();
        finAtTheEndOfRoom();
        finBehindRoom();
        finInOpenAndFinStates();
        dataInOtherStates();
        timeBeginsAgain();
        pushAtTheEnd();
        due.end();
    }

    /** Whether the segment got through to its window, which is taken only if it fits. */
    private static void fits(Lab lab, boolean want, int flags, int seq, int... data) {
        int before = lab.x.socket(0, 1, Lab.WIN);
        int window = before == 40 ? 41 : 40;
        lab.drop(1);
        lab.segment(0, flags, seq, lab.x.socket(0, 1, Lab.UNA), window, data);
        lab.is(0, Lab.WIN, want ? window : before);
        if (!want) {
            lab.flying(1, 1);
        }
    }

    /** "LEN is 0 and SEQ is RCV or SEQ - RCV is below ROOM" */
    private static void fitsWithoutLength() {
        Lab lab = new Lab(due).open();
        fits(lab, true, A, 1101);
        fits(lab, true, A, 1102);
        fits(lab, true, A, 1124);
        fits(lab, false, A, 1125);
        fits(lab, false, A, 1100);
        fits(lab, false, A, 1101 + 32768);
    }

    /** "LEN is above 0, ROOM too, and SEQ - RCV .. is below ROOM" */
    private static void fitsWithLength() {
        Lab lab = new Lab(due).open();
        fits(lab, true, A, 1124, 1, 2);
        fits(lab, false, A, 1125, 1, 2);
        fits(lab, false, A, 1125, 1);
        fits(lab, true, A, 1124, 1);
        fits(lab, false, A + F, 1125);
        fits(lab, true, A + F, 1124);
    }

    /** "or SEQ + LEN - 1 - RCV is below ROOM": FIN and SYN count along */
    private static void fitsByItsLastNumber() {
        Lab lab = new Lab(due).in(Lab.CLOSE_WAIT);
        fits(lab, false, A, 1100, 1, 2);
        fits(lab, true, A, 1100, 1, 2, 3);
        fits(lab, false, A, 1101, 1);
        fits(lab, true, A, 1101, 1, 2);
        fits(lab, false, A + F, 1101);
        fits(lab, true, A + F, 1101, 1);
        fits(lab, true, A, 1092, 1, 2, 3, 4, 5, 6, 7, 8, 9, 10, 11);
        fits(lab, false, A, 1092, 1, 2, 3, 4, 5, 6, 7, 8, 9, 10);
        // A SYN that fits by its last number breaks off, one that does not is answered.
        lab.drop(1);
        lab.segment(0, S + A, 1101, 101, 24);
        lab.went(1, "A 101 1102 24");
        lab.state(0, Lab.CLOSE_WAIT);
        lab.segment(0, S + A, 1101, 101, 24, 1);
        lab.went(1, "R 101 1102 24");
        lab.state(0, Lab.CLOSED);
    }

    /** Host 0 gets a segment of 15 to 32 bytes of data 1, 2 and so on. */
    private static void longSegment(Lab lab, int seq, int ack, int window, int count) {
        int[] m = Model.join(new int[] {1, A, 0, 0, 0, 0, window, 0, 0, 0}, Lab.bytes(1, count));
        Frames.putPair(m, 2, seq);
        Frames.putPair(m, 4, ack);
        Frames.putPair(m, 8, Model.check(Model.join(new int[] {2, 1, 6, m.length}, m)));
        lab.twoPackets(0, 6, m);
    }

    /** Neither its first nor its last number is below ROOM, so it does not fit, though it has all that is due. */
    private static void coveringAllDoesNotFit() {
        Lab lab = new Lab(due).open();
        longSegment(lab, 1100, 101, 7, 26);
        lab.went(1, "A 101 1101 24");
        lab.is(0, Lab.IN, 0);
        lab.is(0, Lab.WIN, 24);
        longSegment(lab, 1100, 101, 7, 25);
        lab.went(1, "A 101 1125 0");
        lab.is(0, Lab.IN, 24);
        due.is("the first byte", lab.x.read(0, 1), 2);
    }

    private static void roomOfZero() {
        Lab lab = new Lab(due).open();
        lab.fill(0, 24);
        fits(lab, true, A, 1125);
        fits(lab, false, A, 1126);
        fits(lab, false, A, 1124);
        fits(lab, false, A, 1125, 1);
        fits(lab, false, A + F, 1125);
        fits(lab, false, A, 1124, 1, 2);
        lab.drop(1);
        lab.segment(0, A, 1125, 101, 24, 1);
        lab.went(1, "A 101 1125 0");
        lab.socketIs(0, Lab.OPEN, 101, 101, 1125, 40, 0, 24, 0, 4, 0, 0);
        // Without room a RST at the number that is due fits, one beside it does not.
        lab.segment(0, R, 1126, 0, 0);
        lab.state(0, Lab.OPEN);
        lab.segment(0, R, 1125, 0, 0, 1);
        lab.state(0, Lab.OPEN);
        lab.segment(0, R, 1125, 0, 0);
        lab.state(0, Lab.CLOSED);
        lab.went(1, "");
    }

    private static void roomOfOne() {
        Lab lab = new Lab(due).open();
        lab.fill(0, 23);
        fits(lab, true, A, 1124);
        fits(lab, false, A, 1125);
        fits(lab, false, A, 1125, 1);
        fits(lab, false, A, 1123, 1);
        lab.drop(1);
        // Of two bytes one is taken, and the FIN behind them is not kept.
        lab.segment(0, A + F, 1124, 101, 24, 8, 9);
        lab.went(1, "A 101 1125 0");
        lab.socketIs(0, Lab.OPEN, 101, 101, 1125, 24, 0, 24, 0, 4, 0, 0);
        lab = new Lab(due).open();
        lab.fill(0, 23);
        fits(lab, true, A, 1123, 1, 9);
        lab.is(0, Lab.IN, 24);
        lab = new Lab(due).open();
        lab.fill(0, 23);
        lab.segment(0, A + F, 1124, 101, 24, 8);
        lab.went(1, "A 101 1126 0");
        lab.state(0, Lab.CLOSE_WAIT);
    }

    /** Host 0 is OPEN, and what is due has this number. */
    private static Lab openAt(int rcv) {
        Lab lab = new Lab(due).in(Lab.LISTEN);
        lab.segment(0, S, (rcv - 1) & 65535, 0, 24);
        lab.segment(0, A, rcv, 101, 24);
        lab.drop(1);
        lab.state(0, Lab.OPEN);
        lab.is(0, Lab.RCV, rcv);
        return lab;
    }

    /** "(all modulo 65536)" */
    private static void fitsRoundTheEnd() {
        Lab lab = openAt(65530);
        fits(lab, true, A, 65530);
        fits(lab, true, A, 65535);
        fits(lab, true, A, 0);
        fits(lab, true, A, 17);
        fits(lab, false, A, 18);
        fits(lab, false, A, 65529);
        lab = openAt(0);
        fits(lab, false, A, 65535);
        fits(lab, false, A, 65535, 1);
        fits(lab, true, A, 0);
        fits(lab, true, A, 23);
        fits(lab, false, A, 24);
        fits(lab, true, A, 65535, 1, 2);
        lab.is(0, Lab.RCV, 1);
        due.is("the byte", lab.x.read(0, 1), 2);
    }

    /** "If it does not: ACK goes (not for RST), in TIME the timer is 8 again; nothing else." */
    private static void whatDoesNotFitIsAnswered() {
        for (int state : FROM_SYN_GOT) {
            Lab lab = new Lab(due).in(state);
            int rcv = lab.x.socket(0, 1, Lab.RCV);
            int nxt = lab.x.socket(0, 1, Lab.NXT);
            lab.x.tick(1);
            String before = lab.all();
            lab.segment(0, R, rcv - 1, nxt, 99);
            lab.segment(0, R + A, rcv + 24, nxt, 99, 1);
            lab.flying(1, 0);
            lab.segment(0, A + F, rcv - 1, nxt, 99);
            lab.segment(0, S, rcv + 24, nxt, 99);
            lab.segment(0, 0, rcv - 1, nxt, 99);
            String ack = "A " + nxt + " " + rcv + " 24";
            lab.went(1, ack + "; " + ack + "; " + ack);
            if (state == Lab.TIME) {
                lab.is(0, Lab.TIMER, 8);
            } else {
                due.same("socket lines in state " + state, socketLine(lab.all()), socketLine(before));
            }
            lab.state(0, state);
        }
        // In TIME the timer is 8 again for a RST too.
        Lab lab = new Lab(due).in(Lab.TIME);
        lab.x.tick(3);
        lab.segment(0, R, 1101, 0, 0);
        lab.is(0, Lab.TIMER, 8);
    }

    /** Of all that the face tells, the line about socket 1 of host 0. */
    private static String socketLine(String all) {
        return all.split("\n")[2];
    }

    /** "RST: CLOSED." */
    private static void rstInEachState() {
        for (int state : FROM_SYN_GOT) {
            for (int flags : new int[] {R, R + A, R + S + A + F}) {
                Lab lab = new Lab(due).in(state);
                lab.segment(0, flags, lab.x.socket(0, 1, Lab.RCV) + 23, 9, 9);
                lab.socketIs(0, 0, 0, 0, 0, 0, 0, 0, 0, 4, 0, 0);
                lab.went(1, "");
            }
        }
    }

    /** "SYN: RST with SEQ NXT goes, CLOSED." */
    private static void synInEachState() {
        for (int state : FROM_SYN_GOT) {
            for (int flags : new int[] {S, S + A, S + A + F}) {
                Lab lab = new Lab(due).in(state);
                int rcv = lab.x.socket(0, 1, Lab.RCV);
                int nxt = lab.x.socket(0, 1, Lab.NXT);
                lab.segment(0, flags, rcv, 9, 9);
                lab.socketIs(0, 0, 0, 0, 0, 0, 0, 0, 0, 4, 0, 0);
                lab.went(1, "R " + nxt + " " + rcv + " 24");
            }
        }
    }

    /** "Without ACK: nothing." */
    private static void withoutAckInEachState() {
        for (int state : FROM_SYN_GOT) {
            Lab lab = new Lab(due).in(state);
            int rcv = lab.x.socket(0, 1, Lab.RCV);
            lab.x.tick(1);
            String before = lab.all();
            lab.segment(0, 0, rcv, lab.x.socket(0, 1, Lab.NXT), 99, 1, 2);
            lab.segment(0, F, rcv, lab.x.socket(0, 1, Lab.NXT), 99);
            lab.flying(1, 0);
            due.same("socket in state " + state, socketLine(lab.all()), socketLine(before));
        }
    }

    /** Host 0 sent the bytes 0 to 3 (numbers 101 to 104), and one tick has passed. */
    private static Lab fourSent() {
        Lab lab = new Lab(due).open();
        for (int i = 0; i < 4; i++) {
            lab.x.send(0, 1, i);
        }
        lab.drop(1);
        lab.x.tick(1);
        lab.is(0, Lab.TIMER, 3);
        return lab;
    }

    /** "if the ACK number is in (UNA, NXT]: .. the timer is RTO, or off if UNA is NXT" */
    private static void confirmation() {
        Lab lab = fourSent();
        lab.segment(0, A, 1101, 101, 24);
        lab.socketIs(0, Lab.OPEN, 101, 105, 1101, 24, 4, 0, 3, 4, 0, 0);
        lab.segment(0, A, 1101, 102, 24);
        lab.socketIs(0, Lab.OPEN, 102, 105, 1101, 24, 3, 0, 4, 4, 0, 0);
        lab.segment(0, A, 1101, 104, 24);
        lab.socketIs(0, Lab.OPEN, 104, 105, 1101, 24, 1, 0, 4, 4, 0, 0);
        lab.x.tick(4);
        // The bytes that are no more are the first ones.
        lab.went(1, "A 104 1101 24 :3");
        lab.is(0, Lab.TRIES, 1);
        lab.segment(0, A, 1101, 105, 24);
        lab.socketIs(0, Lab.OPEN, 105, 105, 1101, 24, 0, 0, 0, 4, 0, 0);
        lab.segment(0, A, 1101, 105, 24);
        lab.socketIs(0, Lab.OPEN, 105, 105, 1101, 24, 0, 0, 0, 4, 0, 0);
        lab.went(1, "");
    }

    /** "neither that nor UNA, but in (NXT, NXT + 32767]: ACK goes, and nothing else" */
    private static void ackNumberAhead() {
        Lab lab = fourSent();
        for (int ack : new int[] {106, 105 + 32767}) {
            lab.segment(0, A + F, 1101, ack, 9, 1);
            lab.went(1, "A 105 1101 24");
            lab.socketIs(0, Lab.OPEN, 101, 105, 1101, 24, 4, 0, 3, 4, 0, 0);
        }
        // With nothing to be confirmed too, and in TIME the timer is not set by it.
        lab = new Lab(due).in(Lab.TIME);
        lab.x.tick(3);
        lab.segment(0, A, 1102, 103, 9, 1);
        lab.went(1, "A 102 1102 24");
        lab.is(0, Lab.TIMER, 5);
    }

    /** Further on than that it counts as old: nothing is confirmed, the rest is taken. */
    private static void ackNumberOld() {
        Lab lab = fourSent();
        lab.segment(0, A, 1101, 105 + 32768, 9, 1);
        lab.went(1, "A 105 1102 23");
        lab.socketIs(0, Lab.OPEN, 101, 105, 1102, 9, 4, 1, 3, 4, 0, 0);
        lab.segment(0, A, 1102, 100, 10, 2);
        lab.went(1, "A 105 1103 22");
        lab.socketIs(0, Lab.OPEN, 101, 105, 1103, 10, 4, 2, 3, 4, 0, 0);
        lab.segment(0, A, 1103, 65535, 11);
        lab.went(1, "");
        lab.is(0, Lab.WIN, 11);
    }

    /** "WIN is its window." */
    private static void windowCounts() {
        Lab lab = fourSent();
        for (int window : new int[] {0, 1, 255, 24}) {
            lab.segment(0, A, 1101, 101, window);
            lab.is(0, Lab.WIN, window);
        }
        for (int state : FROM_SYN_GOT) {
            lab = new Lab(due).in(state);
            int ack = lab.x.socket(0, 1, state == Lab.SYN_GOT ? Lab.NXT : Lab.UNA);
            lab.segment(0, A, lab.x.socket(0, 1, Lab.RCV), ack, 77);
            lab.is(0, Lab.WIN, 77);
        }
    }

    /** "If its FIN was sent and UNA is NXT: FIN 1 becomes FIN 2, BOTH becomes TIME with the timer 8" */
    private static void finIsConfirmed() {
        Lab lab = new Lab(due).in(Lab.FIN_1);
        lab.segment(0, A, 1101, 101, 24);
        lab.state(0, Lab.FIN_1);
        lab.is(0, Lab.TIMER, 4);
        lab.segment(0, A, 1101, 102, 24);
        lab.socketIs(0, Lab.FIN_2, 102, 102, 1101, 24, 0, 0, 0, 4, 0, 1);
        lab.x.tick(40);
        lab.state(0, Lab.FIN_2);
        lab = new Lab(due).in(Lab.BOTH);
        lab.x.tick(1);
        lab.segment(0, A, 1102, 101, 24);
        lab.socketIs(0, Lab.BOTH, 101, 102, 1102, 24, 0, 0, 3, 4, 0, 1);
        lab.segment(0, A, 1102, 102, 24);
        lab.socketIs(0, Lab.TIME, 102, 102, 1102, 24, 0, 0, 8, 4, 0, 1);
        lab.went(1, "");
        // With bytes before the FIN: all of them and the FIN must be confirmed.
        lab = fourSent();
        lab.x.close(0, 1);
        lab.drop(1);
        lab.segment(0, A, 1101, 105, 24);
        lab.socketIs(0, Lab.FIN_1, 105, 106, 1101, 24, 0, 0, 4, 4, 0, 1);
        lab.segment(0, A, 1101, 106, 24);
        lab.state(0, Lab.FIN_2);
        // The FIN is confirmed and the other's comes in one segment.
        lab = new Lab(due).in(Lab.FIN_1);
        lab.segment(0, A + F, 1101, 102, 24);
        lab.socketIs(0, Lab.TIME, 102, 102, 1102, 24, 0, 0, 8, 4, 0, 1);
        lab.went(1, "A 102 1102 24");
        // UNA is NXT in OPEN and CLOSE WAIT too, but no FIN was sent.
        for (int state : new int[] {Lab.OPEN, Lab.CLOSE_WAIT}) {
            lab = new Lab(due).in(state);
            lab.segment(0, A, lab.x.socket(0, 1, Lab.RCV), 101, 24);
            lab.state(0, state);
        }
    }

    /** "LAST becomes CLOSED (nothing else)" */
    private static void lastBecomesClosed() {
        Lab lab = new Lab(due).in(Lab.CLOSE_WAIT);
        lab.x.send(0, 1, 1);
        lab.x.close(0, 1);
        lab.drop(1);
        lab.state(0, Lab.LAST);
        lab.segment(0, A, 1102, 102, 24);
        lab.state(0, Lab.LAST);
        lab.segment(0, A + F, 1102, 103, 24, 7);
        lab.socketIs(0, 0, 0, 0, 0, 0, 0, 0, 0, 4, 0, 0);
        lab.went(1, "");
    }

    /** "kept bytes from RCV on go IN without a gap, RCV grows by each" */
    private static void earlyBytes() {
        Lab lab = new Lab(due).open();
        lab.segment(0, A, 1103, 101, 24, 3, 4);
        lab.went(1, "A 101 1101 24");
        lab.is(0, Lab.IN, 0);
        due.is("nothing to read", lab.x.read(0, 1), -1);
        lab.segment(0, A, 1106, 101, 24, 6);
        lab.segment(0, A, 1101, 101, 24, 1);
        lab.drop(1);
        lab.is(0, Lab.IN, 1);
        lab.segment(0, A, 1102, 101, 24, 2);
        lab.went(1, "A 101 1105 20");
        lab.segment(0, A, 1105, 101, 24, 5);
        lab.went(1, "A 101 1107 18");
        for (int i = 1; i <= 6; i++) {
            due.is("byte " + i, lab.x.read(0, 1), i);
        }
        due.is("no more", lab.x.read(0, 1), -1);
    }

    /** "is kept, if none is there": a byte of 0 is one too */
    private static void byteThatIsThereStays() {
        Lab lab = new Lab(due).open();
        lab.segment(0, A, 1103, 101, 24, 0, 4);
        lab.segment(0, A, 1102, 101, 24, 12, 13, 14, 15);
        lab.segment(0, A, 1101, 101, 24, 1, 22, 23);
        for (int v : new int[] {1, 12, 0, 4, 15, -1}) {
            due.is("the byte that came first", lab.x.read(0, 1), v);
        }
        lab.drop(1);
        // Old bytes are confirmed once more, and nothing else.
        lab.segment(0, A, 1101, 101, 24, 9, 9, 9, 9, 9);
        lab.went(1, "A 101 1106 24");
        due.is("old bytes", lab.x.read(0, 1), -1);
    }

    /** "each byte of data whose number less RCV is below ROOM is kept" */
    private static void bytesBelowRoom() {
        Lab lab = new Lab(due).open();
        // Number 1124 is the last below ROOM; 1125 is not kept.
        lab.segment(0, A, 1124, 101, 24, 90, 91);
        longSegment(lab, 1101, 101, 24, 23);
        lab.is(0, Lab.IN, 24);
        lab.is(0, Lab.RCV, 1125);
        for (int i = 1; i <= 24; i++) {
            due.is("byte " + i, lab.x.read(0, 1), i == 24 ? 90 : i);
        }
        lab.drop(1);
        lab.segment(0, A, 1125, 101, 24, 7);
        lab.is(0, Lab.RCV, 1126);
        due.is("1125 was not kept", lab.x.read(0, 1), 7);
        // ROOM is what is left: 4 of 6.
        lab = new Lab(due).open();
        lab.fill(0, 20);
        lab.segment(0, A, 1121, 101, 24, 1, 2, 3, 4, 5, 6);
        lab.went(1, "A 101 1125 0");
        lab.is(0, Lab.IN, 24);
        lab.x.read(0, 1);
        lab.drop(1);
        lab.segment(0, A, 1125, 101, 24, 50, 60);
        lab.went(1, "A 101 1126 0");
    }

    private static void numbersGoRound() {
        Lab lab = openAt(65531);
        lab.segment(0, A, 2, 101, 24, 7, 8);
        lab.went(1, "A 101 65531 24");
        lab.segment(0, A, 65529, 101, 24, 98, 99, 0, 1, 2, 3, 4, 5, 6);
        lab.went(1, "A 101 4 15");
        lab.is(0, Lab.RCV, 4);
        for (int i = 0; i < 9; i++) {
            due.is("byte " + i, lab.x.read(0, 1), i);
        }
        // 0 is a number like others, not "no FIN".
        lab = openAt(65534);
        lab.segment(0, A, 65534, 101, 24, 1, 2);
        lab.went(1, "A 101 0 22");
        lab.state(0, Lab.OPEN);
        lab.is(0, Lab.RCV, 0);
    }

    private static void finNumberRoundTheEnd() {
        Lab lab = openAt(65535);
        lab.segment(0, A + F, 65535, 101, 24);
        lab.went(1, "A 101 0 24");
        lab.state(0, Lab.CLOSE_WAIT);
        lab = openAt(65534);
        lab.segment(0, A + F, 65535, 101, 24, 2);
        lab.state(0, Lab.OPEN);
        lab.drop(1);
        lab.segment(0, A, 65534, 101, 24, 1);
        lab.went(1, "A 101 1 22");
        lab.state(0, Lab.CLOSE_WAIT);
    }

    private static void finEarly() {
        Lab lab = new Lab(due).open();
        lab.segment(0, A + F, 1103, 101, 24, 3);
        lab.went(1, "A 101 1101 24");
        lab.state(0, Lab.OPEN);
        lab.segment(0, A, 1101, 101, 24, 1);
        lab.state(0, Lab.OPEN);
        lab.drop(1);
        lab.segment(0, A, 1102, 101, 24, 2);
        lab.went(1, "A 101 1105 21");
        lab.state(0, Lab.CLOSE_WAIT);
        for (int i = 1; i <= 3; i++) {
            due.is("byte", lab.x.read(0, 1), i);
        }
    }

    /** "is kept, in place of one that was" */
    private static void finInPlaceOfOneThatWas() {
        for (int[] order : new int[][] {{1103, 1105}, {1105, 1103}}) {
            Lab lab = new Lab(due).open();
            lab.segment(0, A + F, order[0], 101, 24);
            lab.segment(0, A + F, order[1], 101, 24);
            lab.segment(0, A, 1101, 101, 24, 1, 2);
            lab.is(0, Lab.STATE, order[1] == 1103 ? Lab.CLOSE_WAIT : Lab.OPEN);
            lab.is(0, Lab.RCV, order[1] == 1103 ? 1104 : 1103);
            if (order[1] == 1105) {
                lab.segment(0, A, 1103, 101, 24, 3, 4);
                lab.state(0, Lab.CLOSE_WAIT);
                lab.is(0, Lab.RCV, 1106);
            }
        }
    }

    /** Bytes go IN as far as they go; a FIN whose number lies below is passed by. */
    private static void finBelowBytes() {
        Lab lab = new Lab(due).open();
        lab.segment(0, A + F, 1102, 101, 24);
        lab.segment(0, A, 1101, 101, 24, 1, 2, 3);
        lab.socketIs(0, Lab.OPEN, 101, 101, 1104, 24, 0, 3, 0, 4, 0, 0);
    }

    /** "its FIN's number (SEQ + the data) less RCV below ROOM + 1 is kept" */
    private static void finAtTheEndOfRoom() {
        Lab lab = new Lab(due).open();
        lab.segment(0, A + F, 1124, 101, 24, 90);
        longSegment(lab, 1101, 101, 24, 23);
        lab.state(0, Lab.CLOSE_WAIT);
        lab.is(0, Lab.RCV, 1126);
        lab.is(0, Lab.IN, 24);
        lab = new Lab(due).open();
        lab.fill(0, 20);
        lab.segment(0, A + F, 1121, 101, 24, 1, 2, 3, 4);
        lab.went(1, "A 101 1126 0");
        lab.state(0, Lab.CLOSE_WAIT);
    }

    private static void finBehindRoom() {
        Lab lab = new Lab(due).open();
        lab.segment(0, A + F, 1124, 101, 24, 90, 91);
        longSegment(lab, 1101, 101, 24, 23);
        lab.state(0, Lab.OPEN);
        lab.is(0, Lab.RCV, 1125);
        // That FIN was not kept: its number comes, and nothing ends.
        lab.x.read(0, 1);
        lab.segment(0, A, 1125, 101, 24, 91);
        lab.is(0, Lab.RCV, 1126);
        lab.state(0, Lab.OPEN);
    }

    /** "OPEN becomes CLOSE WAIT, FIN 1 BOTH, FIN 2 TIME with the timer 8. If LEN is above 0, ACK goes." */
    private static void finInOpenAndFinStates() {
        Lab lab = new Lab(due).open();
        lab.segment(0, A + F, 1101, 101, 24, 5);
        lab.went(1, "A 101 1103 23");
        lab.socketIs(0, Lab.CLOSE_WAIT, 101, 101, 1103, 24, 0, 1, 0, 4, 0, 0);
        lab = new Lab(due).in(Lab.FIN_1);
        lab.x.tick(1);
        lab.segment(0, A + F, 1101, 101, 24, 5);
        lab.went(1, "A 102 1103 23");
        lab.socketIs(0, Lab.BOTH, 101, 102, 1103, 24, 0, 1, 3, 4, 0, 1);
        lab = new Lab(due).in(Lab.FIN_2);
        lab.segment(0, A, 1101, 102, 24, 4);
        lab.went(1, "A 102 1102 23");
        lab.socketIs(0, Lab.FIN_2, 102, 102, 1102, 24, 0, 1, 0, 4, 0, 1);
        lab.segment(0, A + F, 1102, 102, 24, 5);
        lab.went(1, "A 102 1104 22");
        lab.socketIs(0, Lab.TIME, 102, 102, 1104, 24, 0, 2, 8, 4, 0, 1);
        due.is("TIME may still be read", lab.x.read(0, 1), 4);
        // Without data and FIN no ACK goes.
        for (int state : new int[] {Lab.OPEN, Lab.FIN_1, Lab.FIN_2}) {
            lab = new Lab(due).in(state);
            lab.segment(0, A, 1101, lab.x.socket(0, 1, Lab.UNA), 24);
            lab.went(1, "");
        }
    }

    /** "(In the other states data and FIN do nothing, but if LEN is above 0, ACK goes ..)" */
    private static void dataInOtherStates() {
        for (int state : new int[] {Lab.CLOSE_WAIT, Lab.BOTH, Lab.LAST, Lab.TIME}) {
            Lab lab = new Lab(due).in(state);
            int una = lab.x.socket(0, 1, Lab.UNA);
            String ack = "A " + lab.x.socket(0, 1, Lab.NXT) + " 1102 24";
            lab.segment(0, A, 1102, una, 24, 1, 2);
            lab.segment(0, A + F, 1102, una, 24);
            lab.segment(0, A, 1102, una, 24);
            lab.went(1, ack + "; " + ack);
            lab.is(0, Lab.IN, 0);
            lab.is(0, Lab.RCV, 1102);
            lab.state(0, state);
        }
    }

    /** ".. and in TIME the timer is 8 again" */
    private static void timeBeginsAgain() {
        Lab lab = new Lab(due).in(Lab.TIME);
        lab.x.tick(3);
        lab.segment(0, A, 1102, 102, 24);
        lab.is(0, Lab.TIMER, 5);
        lab.went(1, "");
        lab.segment(0, A, 1102, 102, 24, 1);
        lab.is(0, Lab.TIMER, 8);
        lab.went(1, "A 102 1102 24");
        lab.x.tick(7);
        lab.is(0, Lab.TIMER, 1);
        // The other's FIN once more does not fit.
        lab.segment(0, A + F, 1101, 102, 24);
        lab.is(0, Lab.TIMER, 8);
        lab.went(1, "A 102 1102 24");
        lab.x.tick(7);
        lab.state(0, Lab.TIME);
        lab.x.tick(1);
        lab.state(0, Lab.CLOSED);
    }

    /** "Then push." */
    private static void pushAtTheEnd() {
        Lab lab = new Lab(due).open();
        lab.segment(0, A, 1101, 101, 2);
        for (int i = 0; i < 6; i++) {
            lab.x.send(0, 1, i);
        }
        lab.drop(1);
        lab.x.tick(2);
        // Data are confirmed before the bytes go that now may go.
        lab.segment(0, A, 1101, 103, 3, 99);
        lab.went(1, "A 103 1102 23; A 103 1102 23 :2 3 4");
        lab.is(0, Lab.TIMER, 4);
        lab.is(0, Lab.OUT, 4);
        // The same segment makes it CLOSE WAIT and lets it end: from there to LAST.
        lab = new Lab(due).open();
        lab.segment(0, A, 1101, 101, 0);
        lab.x.send(0, 1, 7);
        lab.x.close(0, 1);
        lab.segment(0, A + F, 1101, 101, 5);
        lab.went(1, "A 101 1102 24; A 101 1102 24 :7; FA 102 1102 24");
        lab.state(0, Lab.LAST);
    }
}
