/** Promises 4 and 5: send and read. */
public final class SendReadTest {
    private static final int A = Lab.ACK, F = Lab.FIN;
    private static final Due due = new Due();

    public static void main(String[] args) {
        bytesGoInOrder();
        lowestAndHighestByte();
        noSuchSendHostsAndSockets();
        refusedByState();
        closeWaitSends();
        sixtyFourOut();
        sixtyFourOutCountsThoseSent();
        endingRefuses();
        readsInOrder();
        refusedReads();
        emptyAgain();
        readOpensAShutWindow();
        readWithRoomOfOneIsSilent();
        readIsSilentInOtherStates();
        streamOverLossAndOrder();
        due.end();
    }

    /** "Byte v comes to the end of OUT, then push" */
    private static void bytesGoInOrder() {
        Lab lab = new Lab(due).open();
        due.yes("send", lab.x.send(0, 1, 9));
        lab.socketIs(0, Lab.OPEN, 101, 102, 1101, 24, 1, 0, 4, 4, 0, 0);
        lab.x.tick(1);
        due.yes("send", lab.x.send(0, 1, 8));
        lab.socketIs(0, Lab.OPEN, 101, 103, 1101, 24, 2, 0, 3, 4, 0, 0);
        lab.went(1, "A 101 1101 24 :9; A 102 1101 24 :8");
        lab.x.tick(3);
        lab.went(1, "A 101 1101 24 :9 8");
    }

    private static void lowestAndHighestByte() {
        Lab lab = new Lab(due).open();
        String before = lab.all();
        for (int v : new int[] {-1, 256, 257, Integer.MIN_VALUE, Integer.MAX_VALUE}) {
            due.no("byte " + v, lab.x.send(0, 1, v));
        }
        due.same("all", lab.all(), before);
        due.yes("byte 0", lab.x.send(0, 1, 0));
        due.yes("byte 255", lab.x.send(0, 1, 255));
        lab.carryAll();
        due.is("byte 0", lab.x.read(1, 1), 0);
        due.is("byte 255", lab.x.read(1, 1), 255);
        due.is("no more", lab.x.read(1, 1), -1);
    }

    private static void noSuchSendHostsAndSockets() {
        Lab lab = new Lab(due).open();
        String before = lab.all();
        due.no("host -1", lab.x.send(-1, 1, 1));
        due.no("host 2", lab.x.send(2, 1, 1));
        due.no("socket 0", lab.x.send(0, 0, 1));
        due.no("socket 3", lab.x.send(0, 3, 1));
        due.no("socket 2 is CLOSED", lab.x.send(0, 2, 1));
        due.same("all", lab.all(), before);
    }

    /** "it is not OPEN or CLOSE WAIT" */
    private static void refusedByState() {
        for (int state = Lab.CLOSED; state <= Lab.TIME; state++) {
            Lab lab = new Lab(due).in(state);
            due.is("send in state " + state, lab.x.send(0, 1, 1) ? 1 : 0,
                    state == Lab.OPEN || state == Lab.CLOSE_WAIT ? 1 : 0);
            lab.is(0, Lab.OUT, state == Lab.OPEN || state == Lab.CLOSE_WAIT ? 1 : 0);
        }
    }

    private static void closeWaitSends() {
        Lab lab = new Lab(due).halfClosed();
        due.yes("CLOSE WAIT", lab.x.send(0, 1, 9));
        lab.x.carry(1);
        due.is("FIN 2 gets it", lab.x.read(1, 1), 9);
    }

    /** "or 64 are OUT" */
    private static void sixtyFourOut() {
        Lab lab = new Lab(due).open();
        lab.segment(0, A, 1101, 101, 0);
        for (int i = 0; i < 63; i++) {
            lab.x.send(0, 1, i);
        }
        due.yes("the 64th", lab.x.send(0, 1, 63));
        lab.is(0, Lab.OUT, 64);
        due.no("a 65th", lab.x.send(0, 1, 64));
        lab.is(0, Lab.OUT, 64);
        lab.is(0, Lab.NXT, 101);
        lab.went(1, "");
        // They are all there, in order.
        for (int got = 0; got < 64; got += 8) {
            lab.segment(0, A, 1101, 101 + got, 8);
            lab.went(1, text(101 + got, got));
        }
    }

    private static String text(int seq, int first) {
        StringBuilder text = new StringBuilder("A " + seq + " 1101 24 :" + first);
        for (int i = 1; i < 8; i++) {
            text.append(" ").append(first + i);
        }
        return text.toString();
    }

    private static void sixtyFourOutCountsThoseSent() {
        Lab lab = new Lab(due).open();
        for (int i = 0; i < 64; i++) {
            due.yes("send " + i, lab.x.send(0, 1, i));
        }
        due.no("a 65th", lab.x.send(0, 1, 64));
        lab.is(0, Lab.OUT, 64);
        lab.is(0, Lab.NXT, 125);
        lab.flying(1, 16);
        lab.drop(1);
        lab.segment(0, A, 1101, 102, 23);
        due.yes("one more", lab.x.send(0, 1, 64));
        due.no("again 64", lab.x.send(0, 1, 65));
    }

    /** "it is ENDING" */
    private static void endingRefuses() {
        Lab lab = new Lab(due).open();
        lab.segment(0, A, 1101, 101, 0);
        lab.x.send(0, 1, 7);
        due.yes("close", lab.x.close(0, 1));
        lab.state(0, Lab.OPEN);
        due.no("send while ENDING", lab.x.send(0, 1, 8));
        lab.is(0, Lab.OUT, 1);
        lab.segment(0, A + F, 1101, 101, 0);
        lab.state(0, Lab.CLOSE_WAIT);
        due.no("send while ENDING", lab.x.send(0, 1, 8));
        lab.is(0, Lab.OUT, 1);
    }

    /** "Takes the first byte IN" */
    private static void readsInOrder() {
        Lab lab = new Lab(due).open();
        lab.segment(1, A, 101, 1101, 24, 5, 0, 255);
        lab.went(0, "A 1101 104 21");
        lab.is(1, Lab.IN, 3);
        due.is("read", lab.x.read(1, 1), 5);
        lab.is(1, Lab.IN, 2);
        due.is("read", lab.x.read(1, 1), 0);
        due.is("read", lab.x.read(1, 1), 255);
        due.is("read at the end", lab.x.read(1, 1), -1);
        lab.is(1, Lab.RCV, 104);
        lab.went(0, "");
    }

    /** "Refused (NONE): there is no such host or socket, or nothing is IN." */
    private static void refusedReads() {
        Lab lab = new Lab(due).open();
        lab.fill(1, 24);
        String before = lab.all();
        due.is("host -1", lab.x.read(-1, 1), -1);
        due.is("host 2", lab.x.read(2, 1), -1);
        due.is("socket 0", lab.x.read(1, 0), -1);
        due.is("socket 3", lab.x.read(1, 3), -1);
        due.is("socket 2, nothing IN", lab.x.read(1, 2), -1);
        due.is("the other host, nothing IN", lab.x.read(0, 1), -1);
        due.same("all", lab.all(), before);
    }

    private static void emptyAgain() {
        Lab lab = new Lab(due).open();
        lab.fill(0, 24);
        for (int i = 0; i < 24; i++) {
            due.is("byte " + i, lab.x.read(0, 1), 10 + i);
            lab.is(0, Lab.IN, 23 - i);
        }
        due.is("empty", lab.x.read(0, 1), -1);
        lab.drop(1);
        lab.fill(0, 12);
        due.is("again", lab.x.read(0, 1), 10);
    }

    /** "when ROOM was 0 before, and it is OPEN, FIN 1 or FIN 2, ACK goes" */
    private static void readOpensAShutWindow() {
        for (int state : new int[] {Lab.OPEN, Lab.FIN_1, Lab.FIN_2}) {
            Lab lab = new Lab(due).in(state);
            int nxt = lab.x.socket(0, 1, Lab.NXT);
            int una = lab.x.socket(0, 1, Lab.UNA);
            lab.segment(0, A, 1101, una, 24, Lab.bytes(1, 14));
            lab.segment(0, A, 1115, una, 24, Lab.bytes(15, 10));
            lab.is(0, Lab.IN, 24);
            lab.state(0, state);
            lab.drop(1);
            due.is("read", lab.x.read(0, 1), 1);
            lab.went(1, "A " + nxt + " 1125 1");
            due.is("read", lab.x.read(0, 1), 2);
            lab.went(1, "");
        }
    }

    private static void readWithRoomOfOneIsSilent() {
        Lab lab = new Lab(due).open();
        lab.fill(0, 23);
        due.is("read", lab.x.read(0, 1), 10);
        lab.went(1, "");
    }

    private static void readIsSilentInOtherStates() {
        for (int state : new int[] {Lab.CLOSE_WAIT, Lab.BOTH, Lab.LAST, Lab.TIME}) {
            int before = state == Lab.BOTH ? Lab.FIN_1 : state == Lab.TIME ? Lab.FIN_2 : Lab.OPEN;
            Lab lab = new Lab(due).in(before);
            int una = lab.x.socket(0, 1, Lab.UNA);
            lab.segment(0, A, 1101, una, 24, Lab.bytes(1, 14));
            lab.segment(0, A + F, 1115, una, 24, Lab.bytes(15, 10));
            if (state == Lab.LAST) {
                lab.x.close(0, 1);
            }
            lab.state(0, state);
            lab.is(0, Lab.IN, 24);
            lab.drop(1);
            due.is("read", lab.x.read(0, 1), 1);
            lab.went(1, "");
        }
    }

    private static void streamOverLossAndOrder() {
        Lab lab = new Lab(due).open();
        int next = 0;
        int got = 0;
        for (int round = 0; lab.x.callsLeft() > 7; round++) {
            if (lab.x.send(0, 1, next)) {
                next++;
            }
            lab.x.disturb(1, round % 5 == 0 ? 0 : round % 3 == 0 ? 1 : 2);
            lab.x.carry(1);
            lab.x.carry(0);
            int v = lab.x.read(1, 1);
            if (v >= 0) {
                due.is("byte " + got, v, got);
                got++;
            }
            lab.x.tick(1);
        }
        due.yes("bytes came, as far as " + got, got > 20);
    }
}
