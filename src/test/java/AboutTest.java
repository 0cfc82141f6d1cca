/** Promises 15 and 16: socket and host. */
public final class AboutTest {
    private static final Due due = new Due();

    public static void main(String[] args) {
        refused();
        eachNumberOfASocket();
        eachNumberOfAHost();
        closedSocket();
        askingChangesNothing();
        due.end();
    }

    private static void refused() {
        Counted x = new Counted();
        for (int wrong : new int[] {-1, 2, Integer.MIN_VALUE, Integer.MAX_VALUE}) {
            due.is("socket of host " + wrong, x.socket(wrong, 1, 0), -1);
            due.is("host " + wrong, x.host(wrong, 0), -1);
        }
        for (int wrong : new int[] {-1, 0, 3, Integer.MAX_VALUE}) {
            due.is("socket " + wrong, x.socket(0, wrong, 0), -1);
        }
        for (int wrong : new int[] {-1, 11, Integer.MIN_VALUE}) {
            due.is("socket what " + wrong, x.socket(0, 1, wrong), -1);
        }
        for (int wrong : new int[] {-1, 8, Integer.MAX_VALUE}) {
            due.is("host what " + wrong, x.host(0, wrong), -1);
        }
    }

    private static void eachNumberOfASocket() {
        Lab lab = new Lab(due).open();
        lab.fill(0, 3);
        lab.segment(0, Lab.ACK, 1104, 101, 2);
        lab.x.send(0, 1, 1);
        lab.x.send(0, 1, 2);
        lab.x.send(0, 1, 3);
        lab.x.close(0, 1);
        lab.x.tick(5);
        int[] want = {Lab.OPEN, 101, 103, 1104, 2, 3, 3, 7, 8, 1, 1};
        for (int what = 0; what < want.length; what++) {
            lab.is(0, what, want[what]);
        }
    }

    private static void eachNumberOfAHost() {
        Lab lab = new Lab(due).meet();
        lab.x.tick(2);
        lab.x.ping(0, 9, 0);
        lab.carryAll();
        lab.arrive(0, Lab.packet(0, 7, 128, 1, 1, 2, 3, 4));
        int[] want = {28, 0, 2, 9, 1, 2, 2, 17};
        for (int what = 0; what < want.length; what++) {
            lab.hostIs(0, what, want[what]);
        }
        lab.x.tick(28);
        lab.x.ping(1, 1, 43);
        int[] later = {0, 2, 0, -1, 0, 4, 4, 16};
        for (int what = 0; what < later.length; what++) {
            lab.hostIs(1, what, later[what]);
        }
    }

    /** "(In CLOSED: 0 for 1 to 10, but RTO 4.)" */
    private static void closedSocket() {
        Lab lab = new Lab(due);
        lab.socketIs(0, 0, 0, 0, 0, 0, 0, 0, 0, 4, 0, 0);
        lab.open();
        lab.x.send(0, 1, 5);
        lab.carryAll();
        lab.x.abort(1, 1);
        lab.carryAll();
        lab.socketIs(0, 0, 0, 0, 0, 0, 0, 0, 0, 4, 0, 0);
        lab.socketIs(1, 0, 0, 0, 0, 0, 0, 0, 0, 4, 0, 0);
    }

    private static void askingChangesNothing() {
        Lab lab = new Lab(due).open();
        lab.x.send(0, 1, 1);
        for (int i = 0; i < 3; i++) {
            lab.is(0, Lab.TIMER, 4);
            lab.hostIs(0, 0, 30);
            due.is("flying", lab.x.flying(1), 1);
        }
    }
}
