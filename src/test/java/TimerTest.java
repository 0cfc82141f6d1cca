/** Terms: the timer at 0, state by state, and the seventh try. */
public final class TimerTest {
    private static final int A = Lab.ACK, F = Lab.FIN;
    private static final int[] WITH_TRIES = {Lab.SYN_SENT, Lab.SYN_GOT, Lab.FIN_1, Lab.BOTH, Lab.LAST};
    private static final Due due = new Due();

    public static void main(String[] args) {
        timeBecomesClosed();
        rtoIsDoubledUpTo32();
        seventhTry();
        seventhTryWithBytesOut();
        seventhTryWithoutWindow();
        synAndSynAck();
        bytesThatWereSent();
        atMost32();
        oneByteWithoutWindow();
        finWhenNoneIsOut();
        bytesBeforeTheFin();
        confirmationBeginsAnew();
        sameAckDoesNot();
        timerThatIsOff();
        due.end();
    }

    /** "TIME: CLOSED." */
    private static void timeBecomesClosed() {
        Lab lab = new Lab(due).in(Lab.TIME);
        lab.is(0, Lab.TIMER, 8);
        lab.x.tick(7);
        lab.state(0, Lab.TIME);
        lab.is(0, Lab.TIMER, 1);
        lab.x.tick(1);
        lab.socketIs(0, 0, 0, 0, 0, 0, 0, 0, 0, 4, 0, 0);
        lab.went(1, "");
        lab.hostIs(0, Lab.LINE, 0);
    }

    /** "Else RTO is doubled, at most 32, the timer is RTO" */
    private static void rtoIsDoubledUpTo32() {
        for (int state : WITH_TRIES) {
            Lab lab = new Lab(due).in(state);
            int[] waits = {4, 8, 16, 32, 32, 32, 32};
            for (int i = 0; i < 6; i++) {
                lab.is(0, Lab.TIMER, waits[i]);
                lab.is(0, Lab.RTO, waits[i]);
                lab.is(0, Lab.TRIES, i);
                lab.x.tick(waits[i] - 1);
                lab.is(0, Lab.TIMER, 1);
                lab.is(0, Lab.TRIES, i);
                lab.x.tick(1);
                lab.is(0, Lab.TRIES, i + 1);
                lab.is(0, Lab.RTO, waits[i + 1]);
                lab.is(0, Lab.TIMER, waits[i + 1]);
                lab.state(0, state);
            }
        }
    }

    /** Six tries have passed, and one tick is left of the seventh; host 0 knows the station, nothing is on the way. */
    private static void toTheSeventhTry(Lab lab) {
        for (int wait : new int[] {4, 8, 16, 32, 32, 32, 31}) {
            lab.x.tick(wait);
            lab.drop(1);
        }
        lab.is(0, Lab.TRIES, 6);
        lab.is(0, Lab.TIMER, 1);
        // Host 1's question makes its station known; what waited in the line goes, and is lost.
        lab.x.ping(1, 0, 0);
        lab.x.carry(0);
        lab.hostIs(0, Lab.KNOWN, 30);
        lab.drop(1);
    }

    /** "TRIES grow by 1; at 7: RST with SEQ NXT goes, CLOSED." */
    private static void seventhTry() {
        String[] rst = {"R 101 0 24", "R 101 1101 24", "R 102 1101 24", "R 102 1102 24", "R 102 1102 24"};
        for (int i = 0; i < WITH_TRIES.length; i++) {
            Lab lab = new Lab(due).in(WITH_TRIES[i]);
            toTheSeventhTry(lab);
            lab.state(0, WITH_TRIES[i]);
            lab.x.tick(1);
            lab.went(1, rst[i]);
            lab.socketIs(0, 0, 0, 0, 0, 0, 0, 0, 0, 4, 0, 0);
        }
    }

    private static void seventhTryWithBytesOut() {
        for (int state : new int[] {Lab.OPEN, Lab.CLOSE_WAIT}) {
            Lab lab = new Lab(due).in(state);
            lab.x.send(0, 1, 1);
            lab.x.send(0, 1, 2);
            lab.drop(1);
            toTheSeventhTry(lab);
            lab.state(0, state);
            lab.is(0, Lab.OUT, 2);
            lab.x.tick(1);
            lab.went(1, state == Lab.OPEN ? "R 103 1101 24" : "R 103 1102 24");
            lab.socketIs(0, 0, 0, 0, 0, 0, 0, 0, 0, 4, 0, 0);
        }
    }

    private static void seventhTryWithoutWindow() {
        Lab lab = new Lab(due).open();
        lab.segment(0, A, 1101, 101, 0);
        lab.x.send(0, 1, 1);
        lab.x.send(0, 1, 2);
        toTheSeventhTry(lab);
        // One byte went by the first try, and no second one later.
        lab.is(0, Lab.NXT, 102);
        lab.x.tick(1);
        lab.went(1, "R 102 1101 24");
        lab.state(0, Lab.CLOSED);
    }

    /** "SYN SENT: SYN with SEQ FIRST goes; SYN GOT: SYN + ACK with that" */
    private static void synAndSynAck() {
        Lab lab = new Lab(due).in(Lab.SYN_SENT);
        lab.x.tick(3);
        lab.went(1, "");
        lab.x.tick(1);
        lab.went(1, "S 100 0 24");
        lab.x.tick(8);
        lab.went(1, "S 100 0 24");
        lab.is(0, Lab.NXT, 101);
        lab = new Lab(due).in(Lab.SYN_GOT);
        lab.x.tick(4);
        lab.went(1, "SA 100 1101 24");
        lab.x.tick(8);
        lab.went(1, "SA 100 1101 24");
        lab.is(0, Lab.NXT, 101);
    }

    /** "if bytes OUT were sent: ACK with SEQ UNA and the first of these" */
    private static void bytesThatWereSent() {
        Lab lab = new Lab(due).open();
        lab.segment(0, A, 1101, 101, 2);
        lab.x.send(0, 1, 1);
        lab.x.send(0, 1, 2);
        lab.x.send(0, 1, 3);
        lab.drop(1);
        lab.x.tick(4);
        // The third was not sent, so it is not sent again either.
        lab.went(1, "A 101 1101 24 :1 2");
        lab.is(0, Lab.NXT, 103);
        // However small the window became.
        lab.segment(0, A, 1101, 101, 0);
        lab.x.tick(8);
        lab.went(1, "A 101 1101 24 :1 2");
        lab.segment(0, A, 1101, 102, 0);
        lab.x.tick(4);
        lab.went(1, "A 102 1101 24 :2");
        // In CLOSE WAIT likewise.
        lab = new Lab(due).in(Lab.CLOSE_WAIT);
        lab.x.send(0, 1, 7);
        lab.drop(1);
        lab.x.tick(4);
        lab.went(1, "A 101 1102 24 :7");
    }

    /** "at most 32" */
    private static void atMost32() {
        for (int count = 31; count <= 34; count++) {
            Lab lab = new Lab(due).open();
            lab.segment(0, A, 1101, 101, 255);
            for (int i = 0; i < count; i++) {
                lab.x.send(0, 1, i);
            }
            lab.drop(1);
            lab.is(0, Lab.NXT, 101 + count);
            int ident = lab.x.host(0, Lab.IDENT);
            lab.x.tick(4);
            int rest = 10 + Math.min(count, 32) - 24;
            due.is("the last byte", lab.x.octet(1, 1, 13 + rest - 1), Math.min(count, 32) - 1);
            lab.went(1, "piece 128 of " + ident + " size 24; piece 6 of " + ident + " size " + rest);
            lab.is(0, Lab.NXT, 101 + count);
        }
    }

    /** "if none was but some are OUT: the first one so, and NXT grows by 1" */
    private static void oneByteWithoutWindow() {
        Lab lab = new Lab(due).open();
        lab.segment(0, A, 1101, 101, 0);
        lab.x.send(0, 1, 7);
        lab.x.send(0, 1, 8);
        lab.is(0, Lab.TIMER, 4);
        lab.x.tick(4);
        lab.went(1, "A 101 1101 24 :7");
        lab.socketIs(0, Lab.OPEN, 101, 102, 1101, 0, 2, 0, 8, 8, 1, 0);
        // Now it was sent: the same again, and NXT stays.
        lab.x.tick(8);
        lab.went(1, "A 101 1101 24 :7");
        lab.socketIs(0, Lab.OPEN, 101, 102, 1101, 0, 2, 0, 16, 16, 2, 0);
        // Confirmed, with the window still shut: the next one waits for the timer again.
        lab.segment(0, A, 1101, 102, 0);
        lab.went(1, "");
        lab.socketIs(0, Lab.OPEN, 102, 102, 1101, 0, 1, 0, 4, 4, 0, 0);
        lab.x.tick(4);
        lab.went(1, "A 102 1101 24 :8");
        lab.is(0, Lab.NXT, 103);
        // With one under way a window of 1 lets no other go, one of 2 does.
        lab.x.send(0, 1, 9);
        lab.segment(0, A, 1101, 102, 1);
        lab.went(1, "");
        lab.segment(0, A, 1101, 102, 2);
        lab.went(1, "A 103 1101 24 :9");
    }

    /** "if there are none OUT: FIN + ACK with SEQ UNA" */
    private static void finWhenNoneIsOut() {
        for (int state : new int[] {Lab.FIN_1, Lab.BOTH, Lab.LAST}) {
            Lab lab = new Lab(due).in(state);
            String fin = "FA 101 " + lab.x.socket(0, 1, Lab.RCV) + " 24";
            lab.x.tick(4);
            lab.went(1, fin);
            lab.x.tick(8);
            lab.went(1, fin);
            lab.is(0, Lab.NXT, 102);
            lab.state(0, state);
        }
    }

    private static void bytesBeforeTheFin() {
        Lab lab = new Lab(due).open();
        lab.x.send(0, 1, 5);
        lab.x.close(0, 1);
        lab.drop(1);
        lab.x.tick(4);
        lab.went(1, "A 101 1101 24 :5");
        lab.segment(0, A, 1101, 102, 24);
        lab.socketIs(0, Lab.FIN_1, 102, 103, 1101, 24, 0, 0, 4, 4, 0, 1);
        lab.x.tick(4);
        lab.went(1, "FA 102 1101 24");
        // In BOTH and LAST the bytes go first too.
        lab = new Lab(due).open();
        lab.x.send(0, 1, 5);
        lab.x.close(0, 1);
        lab.segment(0, A + F, 1101, 101, 24);
        lab.state(0, Lab.BOTH);
        lab.drop(1);
        lab.x.tick(4);
        lab.went(1, "A 101 1102 24 :5");
    }

    /** "TRIES are 0, RTO is 4, the timer is RTO" */
    private static void confirmationBeginsAnew() {
        Lab lab = twoTries();
        lab.segment(0, A, 1101, 102, 24);
        lab.socketIs(0, Lab.OPEN, 102, 103, 1101, 24, 1, 0, 4, 4, 0, 0);
        lab = twoTries();
        lab.segment(0, A, 1101, 103, 24);
        lab.socketIs(0, Lab.OPEN, 103, 103, 1101, 24, 0, 0, 0, 4, 0, 0);
        // Seven tries are counted from the latest confirmation.
        lab = twoTries();
        lab.segment(0, A, 1101, 102, 24);
        toTheSeventhTry(lab);
        lab.state(0, Lab.OPEN);
    }

    private static Lab twoTries() {
        Lab lab = new Lab(due).open();
        lab.x.send(0, 1, 1);
        lab.x.send(0, 1, 2);
        lab.x.tick(12);
        lab.drop(1);
        lab.is(0, Lab.TRIES, 2);
        lab.is(0, Lab.RTO, 16);
        return lab;
    }

    private static void sameAckDoesNot() {
        Lab lab = twoTries();
        lab.segment(0, A, 1101, 101, 24);
        lab.segment(0, A, 1101, 101, 24, 7);
        lab.socketIs(0, Lab.OPEN, 101, 103, 1102, 24, 2, 1, 16, 16, 2, 0);
    }

    /** "(0: off)": nothing happens to it, however long. */
    private static void timerThatIsOff() {
        for (int state : new int[] {Lab.CLOSED, Lab.LISTEN, Lab.OPEN, Lab.FIN_2, Lab.CLOSE_WAIT}) {
            Lab lab = new Lab(due).in(state);
            lab.is(0, Lab.TIMER, 0);
            lab.x.tick(60);
            lab.x.tick(60);
            lab.is(0, Lab.TIMER, 0);
            lab.is(0, Lab.TRIES, 0);
            lab.state(0, state);
            lab.flying(1, 0);
            lab.hostIs(0, Lab.LINE, 0);
        }
    }
}
