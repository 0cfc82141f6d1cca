/** Promises 6 and 7: close and abort. */
public final class CloseAbortTest {
    private static final Due due = new Due();

    public static void main(String[] args) {
        noSuchHostsAndSockets();
        closeInEachState();
        closeBeforeOpen();
        closeInOrder();
        closeAtOnce();
        closeWaitsForBytes();
        closeInCloseWait();
        abortInEachState();
        abortForgetsAll();
        abortAnswersRoomAndRcv();
        due.end();
    }

    private static void noSuchHostsAndSockets() {
        Lab lab = new Lab(due).open();
        String before = lab.all();
        int[][] wrong = {{-1, 1}, {2, 1}, {0, 0}, {0, 3}, {1, -1}, {Integer.MIN_VALUE, 1}, {0, Integer.MAX_VALUE}};
        for (int[] w : wrong) {
            due.no("close " + w[0] + " " + w[1], lab.x.close(w[0], w[1]));
            due.no("abort " + w[0] + " " + w[1], lab.x.abort(w[0], w[1]));
        }
        due.no("close CLOSED", lab.x.close(0, 2));
        due.no("abort CLOSED", lab.x.abort(0, 2));
        due.same("all", lab.all(), before);
    }

    /** "LISTEN and SYN SENT become CLOSED; OPEN and CLOSE WAIT, not ENDING yet, are ENDING"; refused in all others */
    private static void closeInEachState() {
        int[] then = {-1, Lab.CLOSED, Lab.CLOSED, -1, Lab.FIN_1, -1, -1, Lab.LAST, -1, -1, -1};
        for (int state = Lab.CLOSED; state <= Lab.TIME; state++) {
            Lab lab = new Lab(due).in(state);
            String before = lab.all();
            due.is("close in state " + state, lab.x.close(0, 1) ? 1 : 0, then[state] >= 0 ? 1 : 0);
            if (then[state] < 0) {
                due.same("all in state " + state, lab.all(), before);
            } else {
                lab.state(0, then[state]);
                lab.flying(1, then[state] == Lab.CLOSED ? 0 : 1);
            }
        }
    }

    private static void closeBeforeOpen() {
        Lab lab = new Lab(due).in(Lab.LISTEN);
        due.yes("close LISTEN", lab.x.close(0, 1));
        lab.socketIs(0, 0, 0, 0, 0, 0, 0, 0, 0, 4, 0, 0);
        due.no("close again", lab.x.close(0, 1));
        lab = new Lab(due).in(Lab.SYN_SENT);
        lab.x.tick(4);
        lab.drop(1);
        due.yes("close SYN SENT", lab.x.close(0, 1));
        lab.socketIs(0, 0, 0, 0, 0, 0, 0, 0, 0, 4, 0, 0);
        lab.went(1, "");
    }

    private static void closeInOrder() {
        Lab lab = new Lab(due).open();
        lab.is(0, Lab.ENDING, 0);
        due.yes("close", lab.x.close(0, 1));
        lab.state(0, Lab.FIN_1);
        lab.is(0, Lab.ENDING, 1);
        lab.is(0, Lab.NXT, 102);
        lab.is(0, Lab.TIMER, 4);
        due.is("FIN + ACK", lab.x.octet(1, 0, 14), 17);
        lab.x.carry(1);
        lab.state(1, Lab.CLOSE_WAIT);
        lab.is(1, Lab.RCV, 102);
        lab.x.carry(0);
        lab.state(0, Lab.FIN_2);
        lab.is(0, Lab.TIMER, 0);
        due.yes("close the other", lab.x.close(1, 1));
        lab.state(1, Lab.LAST);
        lab.x.carry(0);
        lab.state(0, Lab.TIME);
        lab.is(0, Lab.TIMER, 8);
        lab.is(0, Lab.RCV, 1102);
        lab.x.carry(1);
        lab.state(1, Lab.CLOSED);
        lab.is(1, Lab.ENDING, 0);
        lab.x.tick(7);
        lab.state(0, Lab.TIME);
        lab.x.tick(1);
        lab.socketIs(0, 0, 0, 0, 0, 0, 0, 0, 0, 4, 0, 0);
    }

    private static void closeAtOnce() {
        Lab lab = new Lab(due).open();
        lab.x.close(0, 1);
        lab.x.close(1, 1);
        lab.x.carry(0);
        lab.x.carry(1);
        lab.state(0, Lab.BOTH);
        lab.state(1, Lab.BOTH);
        lab.x.tick(1);
        lab.carryAll();
        lab.state(0, Lab.TIME);
        lab.state(1, Lab.TIME);
        lab.is(0, Lab.TIMER, 8);
    }

    private static void closeWaitsForBytes() {
        Lab lab = new Lab(due).open();
        lab.segment(0, Lab.ACK, 1101, 101, 1);
        lab.x.send(0, 1, 1);
        lab.x.send(0, 1, 2);
        lab.drop(1);
        due.yes("close", lab.x.close(0, 1));
        due.no("close again while ENDING", lab.x.close(0, 1));
        lab.state(0, Lab.OPEN);
        lab.is(0, Lab.ENDING, 1);
        lab.went(1, "");
        lab.segment(0, Lab.ACK, 1101, 102, 1);
        // The FIN needs no room in the window.
        lab.went(1, "A 102 1101 24 :2; FA 103 1101 24");
        lab.socketIs(0, Lab.FIN_1, 102, 104, 1101, 1, 1, 0, 4, 4, 0, 1);
        lab.segment(0, Lab.ACK, 1101, 103, 1);
        lab.socketIs(0, Lab.FIN_1, 103, 104, 1101, 1, 0, 0, 4, 4, 0, 1);
        lab.segment(0, Lab.ACK, 1101, 104, 1);
        lab.state(0, Lab.FIN_2);
    }

    private static void closeInCloseWait() {
        Lab lab = new Lab(due).halfClosed();
        due.yes("close", lab.x.close(0, 1));
        lab.state(0, Lab.LAST);
        lab.went(1, "FA 101 1102 24");
        lab.segment(0, Lab.ACK, 1102, 102, 24);
        lab.state(0, Lab.CLOSED);
        lab.went(1, "");
    }

    /** "RST with SEQ NXT goes (not in LISTEN, SYN SENT and TIME), CLOSED: true"; refused in CLOSED */
    private static void abortInEachState() {
        String[] rst = {"", "", "", "R 101 1101 24", "R 101 1101 24", "R 102 1101 24", "R 102 1101 24",
            "R 101 1102 24", "R 102 1102 24", "R 102 1102 24", ""};
        for (int state = Lab.CLOSED; state <= Lab.TIME; state++) {
            Lab lab = new Lab(due).in(state);
            due.is("abort in state " + state, lab.x.abort(0, 1) ? 1 : 0, state == Lab.CLOSED ? 0 : 1);
            lab.went(1, rst[state]);
            lab.socketIs(0, 0, 0, 0, 0, 0, 0, 0, 0, 4, 0, 0);
            due.no("abort again", lab.x.abort(0, 1));
            lab.went(1, "");
        }
    }

    private static void abortForgetsAll() {
        Lab lab = new Lab(due).open();
        lab.fill(0, 5);
        lab.segment(0, Lab.ACK, 1108, 101, 3, 1);
        for (int i = 0; i < 9; i++) {
            lab.x.send(0, 1, i);
        }
        lab.x.tick(5);
        lab.x.abort(0, 1);
        lab.socketIs(0, 0, 0, 0, 0, 0, 0, 0, 0, 4, 0, 0);
        due.is("read", lab.x.read(0, 1), -1);
        lab.x.tick(60);
        lab.state(0, Lab.CLOSED);
    }

    private static void abortAnswersRoomAndRcv() {
        Lab lab = new Lab(due).open();
        lab.fill(0, 5);
        lab.x.send(0, 1, 1);
        lab.drop(1);
        due.yes("OPEN", lab.x.abort(0, 1));
        lab.went(1, "R 102 1106 19");
    }
}
