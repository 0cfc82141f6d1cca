/** Terms: what a socket has, ROOM and the ACK number in what it sends, becoming CLOSED, and to begin. */
public final class SocketTest {
    private static final int A = Lab.ACK, S = Lab.SYN, R = Lab.RST, F = Lab.FIN;
    private static final Due due = new Due();

    public static void main(String[] args) {
        windowIsRoomInAllThatGoes();
        windowOfRoomZeroAndOne();
        ackNumberBeforeAnythingCame();
        ackNumberIsRcv();
        eachWayToBecomeClosed();
        nothingOfTheOldWhenItLeavesClosed();
        windowWhenClosedAfterBytesIn();
        firstOfEachSocket();
        firstOfOneThatListens();
        beginningSetsTheTimer();
        socketsAreApart();
        due.end();
    }

    /** "ROOM is 24 less the bytes IN; it is the window in all that it sends." */
    private static void windowIsRoomInAllThatGoes() {
        Lab lab = new Lab(due).open();
        lab.fill(0, 5);
        lab.x.send(0, 1, 9);
        lab.x.close(0, 1);
        lab.went(1, "A 101 1106 19 :9; FA 102 1106 19");
        lab.x.tick(4);
        lab.went(1, "A 101 1106 19 :9");
        lab.x.read(0, 1);
        lab.segment(0, A, 1106, 102, 24);
        lab.x.tick(4);
        lab.went(1, "FA 102 1106 20");
        lab.segment(0, A, 1107, 103, 24, 1);
        lab.went(1, "A 103 1106 20");
        lab.segment(0, S, 1106, 103, 24);
        lab.went(1, "R 103 1106 20");
        lab = new Lab(due).open();
        lab.fill(0, 5);
        lab.x.abort(0, 1);
        lab.went(1, "R 101 1106 19");
        // Bytes that are kept early take no room.
        lab = new Lab(due).open();
        lab.segment(0, A, 1102, 101, 24, 1, 2, 3);
        lab.went(1, "A 101 1101 24");
    }

    private static void windowOfRoomZeroAndOne() {
        Lab lab = new Lab(due).open();
        lab.fill(0, 23);
        lab.x.send(0, 1, 9);
        lab.went(1, "A 101 1124 1 :9");
        lab.segment(0, A, 1124, 101, 24, 77);
        lab.went(1, "A 102 1125 0");
        lab.x.send(0, 1, 8);
        lab.went(1, "A 102 1125 0 :8");
        lab.x.abort(0, 1);
        lab.went(1, "R 103 1125 0");
    }

    /** "What it sends has RCV as ACK number (0 before anything came)." */
    private static void ackNumberBeforeAnythingCame() {
        Lab lab = new Lab(due).meet();
        lab.x.connect(0, 1);
        lab.went(1, "S 100 0 24");
        lab.x.tick(4);
        lab.went(1, "S 100 0 24");
        lab.segment(0, A, 500, 7, 24);
        lab.went(1, "R 7 0 24");
        lab = new Lab(due).in(Lab.LISTEN);
        lab.segment(0, A, 500, 7, 24);
        lab.went(1, "R 7 0 24");
    }

    private static void ackNumberIsRcv() {
        Lab lab = new Lab(due).in(Lab.LISTEN);
        lab.segment(0, S, 65534, 0, 24);
        lab.went(1, "SA 100 65535 24");
        lab.segment(0, A, 65535, 101, 24, 1);
        lab.went(1, "A 101 0 23");
        lab.x.send(0, 1, 3);
        lab.went(1, "A 101 0 23 :3");
        lab.segment(0, A, 0, 101, 24, 2);
        lab.went(1, "A 102 1 22");
        lab.x.abort(0, 1);
        lab.went(1, "R 102 1 22");
    }

    private static void isAsAtFirst(Lab lab) {
        lab.socketIs(0, 0, 0, 0, 0, 0, 0, 0, 0, 4, 0, 0);
        due.is("read", lab.x.read(0, 1), -1);
        lab.x.tick(60);
        lab.socketIs(0, 0, 0, 0, 0, 0, 0, 0, 0, 4, 0, 0);
    }

    /** "When it becomes CLOSED all of that is as at first (numbers 0)" */
    private static void eachWayToBecomeClosed() {
        Lab lab = new Lab(due).in(Lab.LISTEN);
        lab.x.close(0, 1);
        isAsAtFirst(lab);
        lab = new Lab(due).in(Lab.SYN_SENT);
        lab.x.tick(4);
        lab.x.close(0, 1);
        isAsAtFirst(lab);
        lab = new Lab(due).in(Lab.SYN_SENT);
        lab.x.tick(5);
        lab.segment(0, R + A, 9, 101, 24);
        isAsAtFirst(lab);
        lab = busy();
        lab.x.abort(0, 1);
        isAsAtFirst(lab);
        lab = busy();
        lab.segment(0, R, 1106, 0, 0);
        isAsAtFirst(lab);
        lab = busy();
        lab.segment(0, S, 1106, 0, 0);
        isAsAtFirst(lab);
        lab = busy();
        for (int wait : new int[] {7, 16, 32, 32, 32, 32}) {
            lab.x.tick(wait);
        }
        isAsAtFirst(lab);
        lab = new Lab(due).in(Lab.FIN_2);
        lab.segment(0, A + F, 1101, 102, 24, 7);
        lab.is(0, Lab.IN, 1);
        lab.x.tick(8);
        isAsAtFirst(lab);
        lab = new Lab(due).in(Lab.LAST);
        lab.segment(0, A, 1102, 102, 24);
        isAsAtFirst(lab);
    }

    /** OPEN and ENDING, with bytes IN and kept, a FIN kept, bytes OUT sent and not, and the timer doubled once. */
    private static Lab busy() {
        Lab lab = new Lab(due).open();
        lab.fill(0, 5);
        lab.segment(0, A + F, 1108, 101, 3, 1, 2);
        for (int i = 0; i < 9; i++) {
            lab.x.send(0, 1, i);
        }
        lab.x.close(0, 1);
        lab.x.tick(5);
        lab.drop(1);
        lab.socketIs(0, Lab.OPEN, 101, 104, 1106, 3, 9, 5, 7, 8, 1, 1);
        return lab;
    }

    /** "and again when it leaves CLOSED, with RTO 4" */
    private static void nothingOfTheOldWhenItLeavesClosed() {
        Lab lab = busy();
        lab.x.abort(0, 1);
        lab.drop(1);
        due.yes("listen", lab.x.listen(0, 1));
        lab.socketIs(0, Lab.LISTEN, 0, 0, 0, 0, 0, 0, 0, 4, 0, 0);
        lab.segment(0, S, 1105, 0, 24);
        lab.socketIs(0, Lab.SYN_GOT, 105, 106, 1106, 24, 0, 0, 4, 4, 0, 0);
        lab.went(1, "SA 105 1106 24");
        // Bytes 1108, 1109 and the FIN 1110 were kept before; they are gone.
        lab.segment(0, A, 1106, 106, 24, 6, 7);
        lab.went(1, "A 106 1108 22");
        lab.segment(0, A, 1108, 106, 24, 18, 19);
        lab.went(1, "A 106 1110 20");
        lab.state(0, Lab.OPEN);
        for (int v : new int[] {6, 7, 18, 19, -1}) {
            due.is("byte", lab.x.read(0, 1), v);
        }
        due.yes("it is not ENDING any more", lab.x.send(0, 1, 1));
        lab.went(1, "A 106 1110 24 :1");
        lab = busy();
        lab.x.abort(0, 1);
        lab.drop(1);
        due.yes("connect", lab.x.connect(0, 1));
        lab.socketIs(0, Lab.SYN_SENT, 105, 106, 0, 0, 0, 0, 4, 4, 0, 0);
        lab.went(1, "S 105 0 24");
    }

    private static void windowWhenClosedAfterBytesIn() {
        Lab lab = busy();
        lab.x.abort(0, 1);
        lab.drop(1);
        lab.segment(0, A, 500, 700, 24);
        lab.went(1, "RA 700 500 24");
    }

    /** "FIRST is (1000 * h + 100 * p + clock) modulo 65536 for socket p of host h" */
    private static void firstOfEachSocket() {
        for (int h = 0; h < 2; h++) {
            for (int p = 1; p <= 2; p++) {
                for (int clock : new int[] {0, 1, 17}) {
                    Lab lab = new Lab(due).meet();
                    if (clock > 0) {
                        lab.x.tick(clock);
                    }
                    lab.x.connect(h, p);
                    int first = 1000 * h + 100 * p + clock;
                    due.is("UNA", lab.x.socket(h, p, Lab.UNA), first);
                    due.is("NXT", lab.x.socket(h, p, Lab.NXT), first + 1);
                    lab.went(1 - h, (p == 1 ? "" : "socket 2 ") + "S " + first + " 0 24");
                }
            }
        }
        // The clock goes to 30000 and more in 512 calls.
        Counted x = new Counted();
        for (int i = 0; i < 500; i++) {
            x.tick(60);
        }
        x.connect(1, 2);
        due.is("UNA", x.socket(1, 2, Lab.UNA), 31200);
    }

    /** One that listens begins when the SYN comes, not when it was told to listen. */
    private static void firstOfOneThatListens() {
        Lab lab = new Lab(due).in(Lab.LISTEN);
        lab.x.tick(9);
        lab.is(0, Lab.UNA, 0);
        lab.segment(0, S, 500, 0, 24);
        lab.is(0, Lab.UNA, 109);
        lab.is(0, Lab.NXT, 110);
        lab.went(1, "SA 109 501 24");
        // Sent again it is the same FIRST, though the clock went on.
        lab.x.tick(4);
        lab.went(1, "SA 109 501 24");
    }

    /** "UNA is FIRST, NXT FIRST + 1, the timer is RTO" */
    private static void beginningSetsTheTimer() {
        Lab lab = new Lab(due).in(Lab.SYN_SENT);
        lab.socketIs(0, Lab.SYN_SENT, 100, 101, 0, 0, 0, 0, 4, 4, 0, 0);
        lab = new Lab(due).in(Lab.SYN_GOT);
        lab.socketIs(0, Lab.SYN_GOT, 100, 101, 1101, 24, 0, 0, 4, 4, 0, 0);
    }

    private static void socketsAreApart() {
        Lab lab = new Lab(due).open();
        lab.x.listen(0, 2);
        lab.x.connect(1, 2);
        lab.carryAll();
        lab.x.send(1, 2, 33);
        lab.carryAll();
        due.is("state", lab.x.socket(0, 2, Lab.STATE), Lab.OPEN);
        due.is("UNA", lab.x.socket(0, 2, Lab.UNA), 201);
        due.is("RCV", lab.x.socket(0, 2, Lab.RCV), 1202);
        due.is("IN", lab.x.socket(0, 2, Lab.IN), 1);
        lab.is(0, Lab.IN, 0);
        due.is("read of socket 1", lab.x.read(0, 1), -1);
        due.is("read of socket 2", lab.x.read(0, 2), 33);
        lab.x.abort(0, 2);
        lab.state(0, Lab.OPEN);
    }
}
