import java.util.StringJoiner;

/** One WireHosts with what tests need often: a frame or segment of one's own that arrives, and what went, as text. */
final class Lab {
    static final int FIN = 1, SYN = 2, RST = 4, ACK = 16;
    static final int CLOSED = 0, LISTEN = 1, SYN_SENT = 2, SYN_GOT = 3, OPEN = 4, FIN_1 = 5, FIN_2 = 6,
            CLOSE_WAIT = 7, BOTH = 8, LAST = 9, TIME = 10;
    static final int STATE = 0, UNA = 1, NXT = 2, RCV = 3, WIN = 4, OUT = 5, IN = 6, TIMER = 7, RTO = 8, TRIES = 9,
            ENDING = 10;

    final WireHosts x = new WireHosts();
    final Due due;

    Lab(Due due) {
        this.due = due;
    }

    /** Both hosts know each other's station, for 30 ticks; nothing is on the way. */
    Lab meet() {
        x.ping(0, 0, 0);
        carryAll();
        return this;
    }

    /** Sockets 1 are OPEN: host 0 has 101 next and 1101 due, host 1 the other way round (at clock 0). */
    Lab open() {
        meet();
        x.listen(1, 1);
        x.connect(0, 1);
        carryAll();
        state(0, OPEN);
        state(1, OPEN);
        return this;
    }

    /** Host 1 has closed its side and host 0 confirmed that: host 0 is in CLOSE WAIT with 1102 due, host 1 in FIN 2. */
    Lab halfClosed() {
        open();
        x.close(1, 1);
        carryAll();
        state(0, CLOSE_WAIT);
        state(1, FIN_2);
        return this;
    }

    void carryAll() {
        for (int i = 0; i < 200 && x.flying(0) + x.flying(1) > 0; i++) {
            x.carry(1);
            x.carry(0);
        }
    }

    void drop(int h) {
        while (x.flying(h) > 0) {
            x.disturb(h, 0);
        }
    }

    void state(int h, int want) {
        is(h, STATE, want);
    }

    void is(int h, int what, int want) {
        due.is(where() + "socket(" + h + ", 1, " + what + ")", x.socket(h, 1, what), want);
    }

    void hostIs(int h, int what, int want) {
        due.is(where() + "host(" + h + ", " + what + ")", x.host(h, what), want);
    }

    /** What is on the way to host h, as text; then it is dropped. */
    void went(int h, String want) {
        StringJoiner all = new StringJoiner("; ");
        for (int k = 0; k < x.flying(h); k++) {
            all.add(text(Frames.read(x, h, k)));
        }
        due.same(where() + "frames to host " + h, all.toString(), want);
        drop(h);
    }

    /** A frame of 14 to 37 bytes arrives at host h, before all that is on the way to it; the other host must know h. */
    void arrive(int h, int... frame) {
        int others = x.flying(h);
        x.ping(1 - h, 0, frame.length < 18 ? frame.length + 6 : frame.length - 18);
        for (int i = 0; i < others; i++) {
            x.disturb(h, 1);
        }
        if (frame.length < 18) {
            // The message went in two packets, the second being of the size that is wanted.
            x.disturb(h, 0);
            for (int i = 0; i < others; i++) {
                x.disturb(h, 1);
            }
        }
        rewrite(h, frame);
        due.is(where() + "the type that carry(" + h + ") tells", x.carry(h), frame[2]);
    }

    /** The first frame on the way to host h becomes this one of the same size. */
    void rewrite(int h, int... frame) {
        due.is(where() + "size of the frame to rewrite", x.octet(h, 0, -1), frame.length);
        for (int i = 0; i < frame.length; i++) {
            int mask = x.octet(h, 0, i) ^ frame[i];
            if (mask != 0) {
                x.alter(h, i, mask);
            }
        }
    }

    /** The frame of a packet to host h, its checksum made. */
    static int[] packet(int h, int ident, int offsetAndMore, int protocol, int... data) {
        int[] head = {16 + h, 17 - h, 8, 10 + data.length, ident, offsetAndMore, 64, protocol, 0, 0, 0, 2 - h, 1 + h};
        int[] f = Model.join(head, data);
        Frames.seal(f);
        return f;
    }

    /** The frame of a segment to host h with at most 14 bytes of data. */
    static int[] segmentFrame(int h, int p, int flags, int seq, int ack, int window, int... data) {
        int[] head = {p, flags, 0, 0, 0, 0, window, 0, 0, 0};
        Frames.putPair(head, 2, seq);
        Frames.putPair(head, 4, ack);
        return packet(h, 0, 0, 6, Model.join(head, data));
    }

    /** A segment for socket 1 arrives at host h. */
    void segment(int h, int flags, int seq, int ack, int window, int... data) {
        arrive(h, segmentFrame(h, 1, flags, seq, ack, window, data));
    }

    /** A message of 25 to 48 bytes arrives at host h, in two packets. */
    void twoPackets(int h, int protocol, int... message) {
        arrive(h, packet(h, 77, 128, protocol, Model.part(message, 0, 24)));
        arrive(h, packet(h, 77, 6, protocol, Model.part(message, 24, message.length)));
    }

    static int[] bytes(int first, int count) {
        int[] row = new int[count];
        for (int i = 0; i < count; i++) {
            row[i] = first + i;
        }
        return row;
    }

    /** Host h's socket 1 gets so many bytes, 10, 11 and so on, in segments of at most 12. */
    void fill(int h, int count) {
        for (int done = 0; done < count; done += 12) {
            int[] data = bytes(10 + done, Math.min(12, count - done));
            segment(h, ACK, x.socket(h, 1, RCV), x.socket(h, 1, NXT), 24, data);
        }
        is(h, IN, count);
    }

    /** The test's method and line, so that a wrong answer can be found. */
    private static String where() {
        for (StackTraceElement e : new Throwable().getStackTrace()) {
            if (!e.getClassName().equals("Lab")) {
                return e.getClassName() + ":" + e.getLineNumber() + " ";
            }
        }
        return "";
    }

    /** Whether all is there that is the same in every packet: bytes, checksums, and what is 0 or 64 always. */
    private static boolean isRight(int[] f, int[] m) {
        int[] sealed = f.clone();
        Frames.seal(sealed);
        boolean right = java.util.Arrays.equals(f, sealed) && f[6] == 64 && f[8] == 0;
        for (int b : f) {
            right &= b >= 0 && b <= 255;
        }
        return right && (f[5] != 0 || m[f[7] == 1 ? 1 : 7] == 0);
    }

    /** One frame as text: an ask; a segment as flags, SEQ, ACK number, window and data; an echo; or a piece. */
    static String text(int[] f) {
        if (f[2] == 6) {
            return "ask " + f[3] + " to " + f[0] + " from " + f[4];
        }
        int[] m = Model.part(f, 13, f.length);
        String right = isRight(f, m) ? "" : " WRONG";
        if (f[5] != 0) {
            return "piece " + f[5] + " of " + f[4] + " size " + m.length + right;
        }
        if (f[7] == 1) {
            return "echo " + m[0] + " token " + m[4] + " size " + m.length + right;
        }
        String flags = ((m[1] & FIN) != 0 ? "F" : "") + ((m[1] & SYN) != 0 ? "S" : "") + ((m[1] & RST) != 0 ? "R" : "")
                + ((m[1] & ACK) != 0 ? "A" : "");
        StringJoiner data = new StringJoiner(" ");
        data.add(flags).add("" + (m[2] * 256 + m[3])).add("" + (m[4] * 256 + m[5])).add("" + m[6]);
        for (int i = 10; i < m.length; i++) {
            data.add((i == 10 ? ":" : "") + m[i]);
        }
        return (m[0] == 1 ? "" : "socket " + m[0] + " ") + data + right;
    }
}
