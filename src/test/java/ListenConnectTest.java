/** Promises 2 and 3: listen and connect. */
public final class ListenConnectTest {
    private static final Due due = new Due();

    public static void main(String[] args) {
        listens();
        connects();
        wrongOnes();
        refusedInAllOtherStates();
        handshake();
        connectWithNobodyListening();
        bothConnect();
        againAfterClosed();
        due.end();
    }

    private static void listens() {
        Lab lab = new Lab(due);
        due.yes("listen(0, 1)", lab.x.listen(0, 1));
        due.no("listen(0, 1) again", lab.x.listen(0, 1));
        due.no("connect(0, 1) in LISTEN", lab.x.connect(0, 1));
        lab.state(0, Lab.LISTEN);
        lab.state(1, Lab.CLOSED);
        due.is("socket 2 stays", lab.x.socket(0, 2, 0), Lab.CLOSED);
        due.is("nothing goes", lab.x.flying(1), 0);
        lab.is(0, Lab.RTO, 4);
        lab.is(0, Lab.TIMER, 0);
        lab.is(0, Lab.NXT, 0);
    }

    private static void connects() {
        Lab lab = new Lab(due).meet();
        due.yes("connect(0, 1)", lab.x.connect(0, 1));
        due.no("connect(0, 1) again", lab.x.connect(0, 1));
        due.no("listen(0, 1) in SYN SENT", lab.x.listen(0, 1));
        lab.state(0, Lab.SYN_SENT);
        lab.is(0, Lab.UNA, 100);
        lab.is(0, Lab.NXT, 101);
        lab.is(0, Lab.RCV, 0);
        lab.is(0, Lab.TIMER, 4);
        lab.is(0, Lab.RTO, 4);
        lab.went(1, "S 100 0 24");
        lab.x.connect(0, 2);
        lab.went(1, "socket 2 S 200 0 24");
    }

    private static void wrongOnes() {
        Counted x = new Counted();
        int[][] wrong = {{-1, 1}, {2, 1}, {0, 0}, {0, 3}, {1, -1}, {Integer.MIN_VALUE, 1}, {0, Integer.MAX_VALUE}};
        for (int[] w : wrong) {
            due.no("listen " + w[0] + " " + w[1], x.listen(w[0], w[1]));
            due.no("connect " + w[0] + " " + w[1], x.connect(w[0], w[1]));
        }
        due.is("nothing is asked", x.flying(0) + x.flying(1), 0);
    }

    /** "or it is not CLOSED" */
    private static void refusedInAllOtherStates() {
        for (int state = Lab.CLOSED; state <= Lab.TIME; state++) {
            Lab lab = new Lab(due).in(state);
            String before = lab.all();
            if (state == Lab.CLOSED) {
                due.yes("listen", lab.x.listen(0, 1));
                lab = new Lab(due).in(state);
                due.yes("connect", lab.x.connect(0, 1));
            } else {
                due.no("listen", lab.x.listen(0, 1));
                due.no("connect", lab.x.connect(0, 1));
                due.same("all in state " + state, lab.all(), before);
            }
        }
    }

    private static void handshake() {
        Lab lab = new Lab(due).meet();
        lab.x.listen(1, 1);
        lab.x.connect(0, 1);
        lab.x.carry(1);
        lab.state(1, Lab.SYN_GOT);
        lab.is(1, Lab.UNA, 1100);
        lab.is(1, Lab.NXT, 1101);
        lab.is(1, Lab.RCV, 101);
        lab.is(1, Lab.WIN, 24);
        lab.is(1, Lab.TIMER, 4);
        lab.x.tick(1);
        lab.is(0, Lab.TIMER, 3);
        due.is("SYN + ACK", lab.x.octet(0, 0, 14), 18);
        lab.x.carry(0);
        lab.state(0, Lab.OPEN);
        lab.is(0, Lab.UNA, 101);
        lab.is(0, Lab.NXT, 101);
        lab.is(0, Lab.RCV, 1101);
        lab.is(0, Lab.TIMER, 0);
        lab.x.disturb(1, 2);
        lab.x.carry(1);
        lab.state(1, Lab.OPEN);
        lab.is(1, Lab.UNA, 1101);
        lab.is(1, Lab.TIMER, 0);
        lab.went(1, "A 101 1101 24");
        lab.went(0, "");
    }

    private static void connectWithNobodyListening() {
        Lab lab = new Lab(due).meet();
        lab.x.connect(0, 1);
        lab.x.carry(1);
        due.is("RST + ACK", lab.x.octet(0, 0, 14), 20);
        lab.x.carry(0);
        lab.state(0, Lab.CLOSED);
        lab.is(0, Lab.NXT, 0);
        lab.is(0, Lab.TIMER, 0);
        lab.went(1, "");
    }

    private static void bothConnect() {
        Lab lab = new Lab(due).meet();
        lab.x.connect(0, 1);
        lab.x.connect(1, 1);
        lab.x.carry(0);
        lab.state(0, Lab.SYN_GOT);
        lab.x.carry(1);
        lab.state(1, Lab.SYN_GOT);
        lab.went(1, "SA 100 1101 24");
        lab.went(0, "SA 1100 101 24");
        lab.segment(0, Lab.SYN + Lab.ACK, 1100, 101, 24);
        // It does not fit any more, so it is answered; only a plain ACK opens.
        lab.state(0, Lab.SYN_GOT);
        lab.went(1, "A 101 1101 24");
        lab.segment(0, Lab.ACK, 1101, 101, 24);
        lab.state(0, Lab.OPEN);
    }

    private static void againAfterClosed() {
        Lab lab = new Lab(due).open();
        lab.x.send(0, 1, 1);
        lab.x.abort(0, 1);
        lab.drop(1);
        lab.x.tick(3);
        due.yes("connect again", lab.x.connect(0, 1));
        lab.is(0, Lab.UNA, 103);
        lab.is(0, Lab.OUT, 0);
        lab.is(0, Lab.RCV, 0);
        lab.went(1, "S 103 0 24");
    }
}
