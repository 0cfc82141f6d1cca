import java.util.ArrayList;
import java.util.List;

/** "A call that is refused changes nothing": each such call in each state, held against a twin that was not asked. */
public final class RefusedTest {
    private static final int NONE = WireHosts.NONE;
    private static final int[] NO_HOSTS = {-1, 2, Integer.MIN_VALUE, Integer.MAX_VALUE};
    private static final int[] NO_SOCKETS = {-1, 0, 3, Integer.MAX_VALUE};
    private static final Due due = new Due();

    /** Brings a new Lab to where the calls are refused. */
    private interface Scene {
        void play(Lab lab);
    }

    /** Makes one call that is to be refused; its answer, with NONE for false. */
    private interface Call {
        int make(Counted x);
    }

    public static void main(String[] args) {
        for (int state = Lab.CLOSED; state <= Lab.TIME; state++) {
            inState(state);
        }
        whileEnding();
        sixtyFourOut();
        wrongBytes();
        nothingIn();
        noFrames();
        sixteenFrames();
        wrongBytesAndMasks();
        withAllAtWork();
        due.end();
    }

    /** NONE for false, as other calls answer when they are refused. */
    private static int bit(boolean b) {
        return b ? 1 : NONE;
    }

    /** The calls answer false or NONE, and the twin that made none of them is in all the same, then and later. */
    private static void refused(String where, Scene scene, List<Call> calls) {
        Lab asked = new Lab(due);
        Lab twin = new Lab(due);
        scene.play(asked);
        scene.play(twin);
        for (int i = 0; i < calls.size(); i++) {
            due.is(where + ", refused call " + i, calls.get(i).make(asked.x), NONE);
        }
        due.same(where + ": all", asked.all(), twin.all());
        for (int round = 0; round < 3; round++) {
            due.is(where + ": the clock", asked.x.tick(4), twin.x.tick(4));
            for (int h = 0; h < 2; h++) {
                due.is(where + ": a byte", asked.x.read(h, 1), twin.x.read(h, 1));
                due.is(where + ": a frame", asked.x.carry(h), twin.x.carry(h));
            }
        }
        for (int h = 0; h < 2; h++) {
            due.is(where + ": frames", asked.x.flying(h), twin.x.flying(h));
            asked.drop(h);
            twin.drop(h);
        }
        due.same(where + ": all, later", asked.all(), twin.all());
    }

    private static void add(List<Call> calls, Call call) {
        calls.add(call);
    }

    private static List<Call> noHosts() {
        List<Call> calls = new ArrayList<>();
        for (int h : NO_HOSTS) {
            calls.addAll(socketCalls(h, 1));
            add(calls, x -> bit(x.ping(h, 0, 0)));
            add(calls, x -> x.carry(h));
            add(calls, x -> bit(x.disturb(h, 0)));
            add(calls, x -> bit(x.alter(h, 0, 1)));
            add(calls, x -> x.flying(h));
            add(calls, x -> x.octet(h, 0, NONE));
            add(calls, x -> x.host(h, 5));
        }
        return calls;
    }

    private static List<Call> noSockets() {
        List<Call> calls = new ArrayList<>();
        for (int p : NO_SOCKETS) {
            calls.addAll(socketCalls(0, p));
        }
        return calls;
    }

    private static List<Call> socketCalls(int h, int p) {
        List<Call> calls = new ArrayList<>();
        add(calls, x -> bit(x.listen(h, p)));
        add(calls, x -> bit(x.connect(h, p)));
        add(calls, x -> bit(x.send(h, p, 1)));
        add(calls, x -> x.read(h, p));
        add(calls, x -> bit(x.close(h, p)));
        add(calls, x -> bit(x.abort(h, p)));
        add(calls, x -> x.socket(h, p, 8));
        return calls;
    }

    private static void inState(int state) {
        List<Call> calls = new ArrayList<>();
        if (state != Lab.CLOSED) {
            add(calls, x -> bit(x.listen(0, 1)));
            add(calls, x -> bit(x.connect(0, 1)));
        } else {
            add(calls, x -> bit(x.abort(0, 1)));
        }
        if (state != Lab.OPEN && state != Lab.CLOSE_WAIT) {
            add(calls, x -> bit(x.send(0, 1, 7)));
            if (state != Lab.LISTEN && state != Lab.SYN_SENT) {
                add(calls, x -> bit(x.close(0, 1)));
            }
        }
        add(calls, x -> x.read(0, 1));
        calls.addAll(noSockets());
        refused("state " + state, lab -> lab.in(state), calls);
        refused("state " + state + ", no hosts", lab -> lab.in(state), noHosts());
    }

    /** Refused by send: "it is ENDING"; by close: "not ENDING yet" */
    private static void whileEnding() {
        List<Call> calls = new ArrayList<>();
        add(calls, x -> bit(x.send(0, 1, 7)));
        add(calls, x -> bit(x.close(0, 1)));
        for (int state : new int[] {Lab.OPEN, Lab.CLOSE_WAIT}) {
            refused("ENDING in state " + state, lab -> {
                lab.in(state);
                lab.segment(0, Lab.ACK, lab.x.socket(0, 1, Lab.RCV), 101, 0);
                lab.x.send(0, 1, 5);
                lab.x.close(0, 1);
                lab.state(0, state);
                lab.is(0, Lab.ENDING, 1);
            }, calls);
        }
    }

    /** Refused: "64 are OUT" */
    private static void sixtyFourOut() {
        List<Call> calls = new ArrayList<>();
        add(calls, x -> bit(x.send(0, 1, 7)));
        for (int state : new int[] {Lab.OPEN, Lab.CLOSE_WAIT}) {
            refused("64 OUT in state " + state, lab -> {
                lab.in(state);
                for (int i = 0; i < 64; i++) {
                    due.yes("send " + i, lab.x.send(0, 1, i));
                }
                lab.is(0, Lab.OUT, 64);
                lab.drop(1);
            }, calls);
        }
    }

    /** Refused: "v is not 0 .. 255" */
    private static void wrongBytes() {
        List<Call> calls = new ArrayList<>();
        for (int v : new int[] {-1, 256, Integer.MIN_VALUE, Integer.MAX_VALUE}) {
            add(calls, x -> bit(x.send(0, 1, v)));
        }
        refused("wrong bytes", lab -> lab.open(), calls);
    }

    /** Refused (NONE): "nothing is IN", though a byte came early */
    private static void nothingIn() {
        List<Call> calls = new ArrayList<>();
        add(calls, x -> x.read(0, 1));
        refused("nothing IN", lab -> {
            lab.open();
            lab.segment(0, Lab.ACK, 1102, 101, 24, 5);
        }, calls);
    }

    private static void noFrames() {
        List<Call> calls = new ArrayList<>();
        add(calls, x -> x.carry(0));
        for (int how = 0; how <= 2; how++) {
            int each = how;
            add(calls, x -> bit(x.disturb(0, each)));
        }
        add(calls, x -> bit(x.alter(0, 0, 1)));
        add(calls, x -> x.octet(0, 0, 0));
        add(calls, x -> x.octet(0, 0, NONE));
        // Frames on the other way do not help.
        refused("no frames", lab -> {
            lab.meet();
            lab.x.ping(0, 1, 0);
        }, calls);
    }

    /** Refused: "how is not 0 .. 2, or (2) there are 16" */
    private static void sixteenFrames() {
        List<Call> calls = new ArrayList<>();
        add(calls, x -> bit(x.disturb(1, 2)));
        for (int how : new int[] {-1, 3, Integer.MIN_VALUE, Integer.MAX_VALUE}) {
            add(calls, x -> bit(x.disturb(1, how)));
        }
        for (int k : new int[] {-1, 16, Integer.MIN_VALUE, Integer.MAX_VALUE}) {
            add(calls, x -> x.octet(1, k, 0));
            add(calls, x -> x.octet(1, k, NONE));
        }
        refused("sixteen frames", lab -> {
            lab.x.ping(1, 0, 0);
            lab.x.carry(0);
            lab.x.connect(0, 1);
            lab.x.ping(0, 1, 0);
            for (int i = 0; i < 13; i++) {
                lab.x.disturb(1, 2);
            }
            lab.flying(1, 16);
        }, calls);
    }

    /** Refused: "no such .. byte, or mask is not 1 .. 255" */
    private static void wrongBytesAndMasks() {
        List<Call> calls = new ArrayList<>();
        for (int k : new int[] {-1, 18, 37, Integer.MIN_VALUE, Integer.MAX_VALUE}) {
            add(calls, x -> bit(x.alter(1, k, 1)));
        }
        for (int mask : new int[] {-1, 0, 256, Integer.MIN_VALUE, Integer.MAX_VALUE}) {
            add(calls, x -> bit(x.alter(1, 0, mask)));
        }
        for (int i : new int[] {-2, 18, Integer.MIN_VALUE, Integer.MAX_VALUE}) {
            add(calls, x -> x.octet(1, 0, i));
        }
        refused("wrong bytes and masks", lab -> {
            lab.meet();
            lab.x.ping(0, 1, 0);
            lab.x.ping(0, 1, 3);
        }, calls);
    }

    /** The line is full, a slot is in use, bytes are IN and kept, timers run: still nothing changes. */
    private static void withAllAtWork() {
        List<Call> calls = new ArrayList<>();
        for (int n : new int[] {0, 61, -1, Integer.MIN_VALUE, Integer.MAX_VALUE}) {
            add(calls, x -> x.tick(n));
        }
        for (int n : new int[] {-1, 44, Integer.MAX_VALUE}) {
            add(calls, x -> bit(x.ping(0, 0, n)));
        }
        for (int token : new int[] {-1, 256, Integer.MIN_VALUE}) {
            add(calls, x -> bit(x.ping(0, token, 0)));
        }
        for (int what : new int[] {-1, 8, Integer.MIN_VALUE, Integer.MAX_VALUE}) {
            add(calls, x -> x.host(0, what));
        }
        for (int what : new int[] {-1, 11, Integer.MIN_VALUE, Integer.MAX_VALUE}) {
            add(calls, x -> x.socket(0, 1, what));
        }
        refused("all at work", RefusedTest::allAtWork, calls);
        refused("all at work, no hosts", RefusedTest::allAtWork, noHosts());
        refused("all at work, no sockets", RefusedTest::allAtWork, noSockets());
    }

    private static void allAtWork(Lab lab) {
        lab.open();
        lab.fill(0, 3);
        lab.segment(0, Lab.ACK, 1105, 101, 2, 9);
        lab.arrive(0, Lab.packet(0, 7, 128, 1, 1, 2, 3, 4));
        lab.x.tick(29);
        lab.arrive(0, Lab.packet(0, 8, 1, 1, 5, 6, 7, 8));
        lab.x.tick(1);
        for (int i = 0; i < 5; i++) {
            lab.x.send(0, 1, i);
        }
        lab.x.ping(0, 1, 43);
        lab.hostIs(0, Lab.LINE, 4);
        lab.hostIs(0, Lab.SLOTS, 1);
    }
}
