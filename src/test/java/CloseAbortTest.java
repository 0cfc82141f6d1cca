/** Promises 6 and 7: close and abort. */
public final class CloseAbortTest {
    private static final Due due = new Due();

    public static void main(String[] args) {
        closeBeforeOpen();
        refusedCloses();
        closeInOrder();
        closeAtOnce();
        closeWaitsForBytes();
        closeInCloseWait();
        finIsSentAgain();
        refusedAborts();
        abortsWithRst();
        silentAborts();
        abortForgetsAll();
        due.end();
    }

    private static void closeBeforeOpen() {
        Lab lab = new Lab(due).meet();
        lab.x.listen(0, 1);
        due.yes("close LISTEN", lab.x.close(0, 1));
        lab.state(0, Lab.CLOSED);
        lab.x.connect(0, 1);
        lab.drop(1);
        due.yes("close SYN SENT", lab.x.close(0, 1));
        lab.state(0, Lab.CLOSED);
        lab.is(0, Lab.NXT, 0);
        lab.is(0, Lab.TIMER, 0);
        lab.went(1, "");
    }

    private static void refusedCloses() {
        Lab lab = new Lab(due).meet();
        due.no("host -1", lab.x.close(-1, 1));
        due.no("host 2", lab.x.close(2, 1));
        due.no("socket 0", lab.x.close(0, 0));
        due.no("socket 3", lab.x.close(0, 3));
        due.no("CLOSED", lab.x.close(0, 1));
        lab.x.listen(1, 1);
        lab.x.connect(0, 1);
        lab.x.carry(1);
        due.no("SYN GOT", lab.x.close(1, 1));
        lab.state(1, Lab.SYN_GOT);
        lab.carryAll();
        lab.x.close(0, 1);
        due.no("FIN 1", lab.x.close(0, 1));
        lab.carryAll();
        due.no("FIN 2", lab.x.close(0, 1));
        lab.x.close(1, 1);
        due.no("LAST", lab.x.close(1, 1));
        lab.carryAll();
        due.no("TIME", lab.x.close(0, 1));
    }

    private static void closeInOrder() {
        Lab lab = new Lab(due).open();
        lab.is(0, Lab.ENDING, 0);
        due.yes("close", lab.x.close(0, 1));
        lab.state(0, Lab.FIN_1);
        lab.is(0, Lab.ENDING, 1);
        lab.is(0, Lab.NXT, 102);
        lab.is(0, Lab.TIMER, 4);
        due.is("FIN + ACK", lab.x.octet(1, 0, 14), 17);
        lab.x.carry(1);
        lab.state(1, Lab.CLOSE_WAIT);
        lab.is(1, Lab.RCV, 102);
        lab.x.carry(0);
        lab.state(0, Lab.FIN_2);
        lab.is(0, Lab.TIMER, 0);
        due.yes("close the other", lab.x.close(1, 1));
        lab.state(1, Lab.LAST);
        lab.x.carry(0);
        lab.state(0, Lab.TIME);
        lab.is(0, Lab.TIMER, 8);
        lab.is(0, Lab.RCV, 1102);
        lab.x.carry(1);
        lab.state(1, Lab.CLOSED);
        lab.is(1, Lab.ENDING, 0);
        lab.x.tick(7);
        lab.state(0, Lab.TIME);
        lab.x.tick(1);
        lab.state(0, Lab.CLOSED);
        lab.is(0, Lab.NXT, 0);
        lab.is(0, Lab.RCV, 0);
        lab.is(0, Lab.ENDING, 0);
    }

    private static void closeAtOnce() {
        Lab lab = new Lab(due).open();
        lab.x.close(0, 1);
        lab.x.close(1, 1);
        lab.x.carry(0);
        lab.x.carry(1);
        lab.state(0, Lab.BOTH);
        lab.state(1, Lab.BOTH);
        lab.x.tick(1);
        lab.carryAll();
        lab.state(0, Lab.TIME);
        lab.state(1, Lab.TIME);
        lab.is(0, Lab.TIMER, 8);
    }

    private static void closeWaitsForBytes() {
        Lab lab = new Lab(due).open();
        lab.segment(0, Lab.ACK, 1101, 101, 1);
        lab.x.send(0, 1, 1);
        lab.x.send(0, 1, 2);
        lab.drop(1);
        due.yes("close", lab.x.close(0, 1));
        due.no("close again while ENDING", lab.x.close(0, 1));
        lab.state(0, Lab.OPEN);
        lab.is(0, Lab.ENDING, 1);
        lab.went(1, "");
        lab.segment(0, Lab.ACK, 1101, 102, 1);
        // The FIN needs no room in the window.
        lab.went(1, "A 102 1101 24 :2; FA 103 1101 24");
        lab.state(0, Lab.FIN_1);
        lab.is(0, Lab.OUT, 1);
        lab.is(0, Lab.NXT, 104);
        lab.segment(0, Lab.ACK, 1101, 103, 1);
        lab.state(0, Lab.FIN_1);
        lab.is(0, Lab.OUT, 0);
        lab.is(0, Lab.TIMER, 4);
        lab.segment(0, Lab.ACK, 1101, 104, 1);
        lab.state(0, Lab.FIN_2);
    }

    private static void closeInCloseWait() {
        Lab lab = new Lab(due).halfClosed();
        due.yes("close", lab.x.close(0, 1));
        lab.state(0, Lab.LAST);
        lab.went(1, "FA 101 1102 24");
        lab.segment(0, Lab.ACK, 1102, 102, 24);
        lab.state(0, Lab.CLOSED);
        lab.went(1, "");
    }

    private static void finIsSentAgain() {
        Lab lab = new Lab(due).open();
        lab.x.send(0, 1, 5);
        lab.x.close(0, 1);
        lab.drop(1);
        lab.x.tick(4);
        lab.went(1, "A 101 1101 24 :5");
        lab.segment(0, Lab.ACK, 1101, 102, 24);
        lab.is(0, Lab.TRIES, 0);
        lab.is(0, Lab.RTO, 4);
        lab.x.tick(4);
        lab.went(1, "FA 102 1101 24");
        lab.x.tick(8);
        lab.went(1, "FA 102 1101 24");
    }

    private static void refusedAborts() {
        Lab lab = new Lab(due).meet();
        due.no("host -1", lab.x.abort(-1, 1));
        due.no("host 2", lab.x.abort(2, 1));
        due.no("socket 0", lab.x.abort(0, 0));
        due.no("socket 3", lab.x.abort(0, 3));
        due.no("CLOSED", lab.x.abort(0, 1));
        lab.went(1, "");
    }

    private static void abortsWithRst() {
        Lab lab = new Lab(due).open();
        lab.fill(0, 5);
        lab.x.send(0, 1, 1);
        lab.drop(1);
        due.yes("OPEN", lab.x.abort(0, 1));
        lab.went(1, "R 102 1106 19");
        lab.state(0, Lab.CLOSED);

        lab = new Lab(due).meet();
        lab.x.listen(1, 1);
        lab.x.connect(0, 1);
        lab.x.carry(1);
        lab.drop(0);
        due.yes("SYN GOT", lab.x.abort(1, 1));
        lab.went(0, "R 1101 101 24");

        lab = new Lab(due).halfClosed();
        due.yes("CLOSE WAIT", lab.x.abort(0, 1));
        lab.went(1, "R 101 1102 24");
        due.yes("FIN 2", lab.x.abort(1, 1));
        lab.went(0, "R 1102 101 24");

        lab = new Lab(due).halfClosed();
        lab.x.close(0, 1);
        lab.drop(1);
        due.yes("LAST", lab.x.abort(0, 1));
        lab.went(1, "R 102 1102 24");
    }

    private static void silentAborts() {
        Lab lab = new Lab(due).meet();
        lab.x.listen(0, 1);
        due.yes("LISTEN", lab.x.abort(0, 1));
        lab.state(0, Lab.CLOSED);
        lab.x.connect(0, 1);
        lab.drop(1);
        due.yes("SYN SENT", lab.x.abort(0, 1));
        lab.state(0, Lab.CLOSED);
        lab.went(1, "");

        lab = new Lab(due).halfClosed();
        lab.x.close(0, 1);
        lab.carryAll();
        lab.state(1, Lab.TIME);
        due.yes("TIME", lab.x.abort(1, 1));
        lab.state(1, Lab.CLOSED);
        lab.went(0, "");
    }

    private static void abortForgetsAll() {
        Lab lab = new Lab(due).open();
        lab.fill(0, 5);
        lab.segment(0, Lab.ACK, 1108, 101, 3, 1);
        for (int i = 0; i < 9; i++) {
            lab.x.send(0, 1, i);
        }
        lab.x.tick(5);
        lab.x.abort(0, 1);
        for (int what = 0; what < 11; what++) {
            lab.is(0, what, what == Lab.RTO ? 4 : 0);
        }
        due.is("read", lab.x.read(0, 1), -1);
        lab.x.tick(60);
        lab.state(0, Lab.CLOSED);
    }
}
