/** A WireHosts whose calls are counted: the document promises 512, so a test that needs more is itself wrong. */
final class Counted {
    private static final int MOST_CALLS = 512;

    private final WireHosts x = new WireHosts();
    private int calls = 0;

    int callsLeft() {
        return MOST_CALLS - calls;
    }

    private WireHosts next() {
        calls++;
        if (calls > MOST_CALLS) {
            throw new IllegalStateException("this test makes more than " + MOST_CALLS + " calls on one object");
        }
        return x;
    }

    boolean listen(int h, int p) {
        return next().listen(h, p);
    }

    boolean connect(int h, int p) {
        return next().connect(h, p);
    }

    boolean send(int h, int p, int v) {
        return next().send(h, p, v);
    }

    int read(int h, int p) {
        return next().read(h, p);
    }

    boolean close(int h, int p) {
        return next().close(h, p);
    }

    boolean abort(int h, int p) {
        return next().abort(h, p);
    }

    boolean ping(int h, int token, int n) {
        return next().ping(h, token, n);
    }

    int carry(int h) {
        return next().carry(h);
    }

    boolean disturb(int h, int how) {
        return next().disturb(h, how);
    }

    boolean alter(int h, int k, int mask) {
        return next().alter(h, k, mask);
    }

    int tick(int n) {
        return next().tick(n);
    }

    int flying(int h) {
        return next().flying(h);
    }

    int octet(int h, int k, int i) {
        return next().octet(h, k, i);
    }

    int socket(int h, int p, int what) {
        return next().socket(h, p, what);
    }

    int host(int h, int what) {
        return next().host(h, what);
    }
}
