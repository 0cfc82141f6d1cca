/** Promises 15 and 16: socket and host. */
public final class AboutTest {
    private static final Due due = new Due();

    public static void main(String[] args) {
        refused();
        eachNumberOfASocket();
        socketsAreApart();
        askingChangesNothing();
        due.end();
    }

    private static void refused() {
        WireHosts x = new WireHosts();
        for (int wrong : new int[] {-1, 2, Integer.MIN_VALUE, Integer.MAX_VALUE}) {
            due.is("socket of host " + wrong, x.socket(wrong, 1, 0), -1);
            due.is("host " + wrong, x.host(wrong, 0), -1);
        }
        for (int wrong : new int[] {-1, 0, 3, Integer.MAX_VALUE}) {
            due.is("socket " + wrong, x.socket(0, wrong, 0), -1);
        }
        for (int wrong : new int[] {-1, 11, Integer.MIN_VALUE}) {
            due.is("socket what " + wrong, x.socket(0, 1, wrong), -1);
        }
        for (int wrong : new int[] {-1, 8, Integer.MAX_VALUE}) {
            due.is("host what " + wrong, x.host(0, wrong), -1);
        }
    }

    private static void eachNumberOfASocket() {
        Lab lab = new Lab(due).open();
        lab.fill(0, 3);
        lab.segment(0, Lab.ACK, 1104, 101, 2);
        lab.x.send(0, 1, 1);
        lab.x.send(0, 1, 2);
        lab.x.send(0, 1, 3);
        lab.x.close(0, 1);
        lab.x.tick(5);
        int[] want = {Lab.OPEN, 101, 103, 1104, 2, 3, 3, 7, 8, 1, 1};
        for (int what = 0; what < want.length; what++) {
            lab.is(0, what, want[what]);
        }
    }

    private static void socketsAreApart() {
        Lab lab = new Lab(due).open();
        lab.x.listen(0, 2);
        lab.x.connect(1, 2);
        lab.carryAll();
        lab.x.send(1, 2, 33);
        lab.carryAll();
        due.is("state", lab.x.socket(0, 2, 0), Lab.OPEN);
        due.is("UNA", lab.x.socket(0, 2, 1), 201);
        due.is("RCV", lab.x.socket(0, 2, 3), 1202);
        due.is("IN", lab.x.socket(0, 2, 6), 1);
        due.is("IN of socket 1", lab.x.socket(0, 1, 6), 0);
        due.is("read of socket 1", lab.x.read(0, 1), -1);
        due.is("read of socket 2", lab.x.read(0, 2), 33);
    }

    private static void askingChangesNothing() {
        Lab lab = new Lab(due).open();
        lab.x.send(0, 1, 1);
        for (int i = 0; i < 3; i++) {
            lab.is(0, Lab.TIMER, 4);
            lab.hostIs(0, 0, 30);
            due.is("flying", lab.x.flying(1), 1);
        }
    }
}
