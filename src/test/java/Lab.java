import java.util.Arrays;
import java.util.StringJoiner;

/** One WireHosts with what tests need often: a frame or segment of one's own that arrives, and what went, as text. */
final class Lab {
    static final int FIN = 1, SYN = 2, RST = 4, ACK = 16;
    static final int CLOSED = 0, LISTEN = 1, SYN_SENT = 2, SYN_GOT = 3, OPEN = 4, FIN_1 = 5, FIN_2 = 6,
            CLOSE_WAIT = 7, BOTH = 8, LAST = 9, TIME = 10;
    static final int STATE = 0, UNA = 1, NXT = 2, RCV = 3, WIN = 4, OUT = 5, IN = 6, TIMER = 7, RTO = 8, TRIES = 9,
            ENDING = 10;
    static final int KNOWN = 0, LINE = 1, PONGS = 2, TOKEN = 3, SLOTS = 4, IDENT = 5, ASK_TIMER = 6, STATION = 7;

    final Counted x = new Counted();
    final Due due;

    Lab(Due due) {
        this.due = due;
    }

    /** Both hosts know each other's station, for 30 ticks; nothing is on the way; host 0 got one echo, of token 0. */
    Lab meet() {
        x.ping(0, 0, 0);
        carryAll();
        return this;
    }

    /** Sockets 1 are OPEN: host 0 has 101 next and 1101 due, host 1 the other way round (at clock 0). */
    Lab open() {
        meet();
        x.listen(1, 1);
        x.connect(0, 1);
        carryAll();
        state(0, OPEN);
        state(1, OPEN);
        return this;
    }

    /** Host 1 has closed its side and host 0 confirmed that: host 0 is in CLOSE WAIT with 1102 due, host 1 in FIN 2. */
    Lab halfClosed() {
        open();
        x.close(1, 1);
        carryAll();
        state(0, CLOSE_WAIT);
        state(1, FIN_2);
        return this;
    }

    /** Socket 1 of host 0 is in this state; its FIRST is 100, the other's 1100. Nothing is on the way. */
    Lab in(int wanted) {
        switch (wanted) {
            case CLOSED -> meet();
            case LISTEN -> meet().x.listen(0, 1);
            case SYN_SENT -> meet().x.connect(0, 1);
            case SYN_GOT -> in(LISTEN).segment(0, SYN, 1100, 0, 24);
            case OPEN -> open();
            case FIN_1 -> open().x.close(0, 1);
            case FIN_2 -> in(FIN_1).segment(0, ACK, 1101, 102, 24);
            case CLOSE_WAIT -> open().segment(0, ACK + FIN, 1101, 101, 24);
            case BOTH -> in(FIN_1).segment(0, ACK + FIN, 1101, 101, 24);
            case LAST -> in(CLOSE_WAIT).x.close(0, 1);
            default -> in(FIN_2).segment(0, ACK + FIN, 1101, 102, 24);
        }
        drop(1);
        state(0, wanted);
        return this;
    }

    void carryAll() {
        for (int i = 0; i < 200; i++) {
            boolean came = x.carry(1) >= 0;
            came |= x.carry(0) >= 0;
            if (!came) {
                return;
            }
        }
    }

    void drop(int h) {
        boolean there = true;
        for (int i = 0; i < 16 && there; i++) {
            there = x.disturb(h, 0);
        }
    }

    void state(int h, int want) {
        is(h, STATE, want);
    }

    void is(int h, int what, int want) {
        due.is(where() + "socket(" + h + ", 1, " + what + ")", x.socket(h, 1, what), want);
    }

    /** All that socket() tells about socket 1 of host h: state, UNA, NXT, RCV, WIN, OUT, IN, timer, RTO, TRIES, ENDING. */
    void socketIs(int h, int... want) {
        int[] got = new int[11];
        for (int what = 0; what < got.length; what++) {
            got[what] = x.socket(h, 1, what);
        }
        due.same(where() + "socket 1 of host " + h, Arrays.toString(got), Arrays.toString(want));
    }

    void hostIs(int h, int what, int want) {
        due.is(where() + "host(" + h + ", " + what + ")", x.host(h, what), want);
    }

    void flying(int h, int want) {
        due.is(where() + "flying(" + h + ")", x.flying(h), want);
    }

    /** What is on the way to host h, as text; then it is dropped. */
    void went(int h, String want) {
        StringJoiner all = new StringJoiner("; ");
        for (int[] f = Frames.read(x, h, 0); f.length > 0; f = Frames.read(x, h, 0)) {
            all.add(text(f));
            x.disturb(h, 0);
        }
        due.same(where() + "frames to host " + h, all.toString(), want);
    }

    /** Frame k on the way to host h is just this one. */
    void frameIs(int h, int k, int... want) {
        due.same(where() + "frame " + k + " to host " + h, Arrays.toString(Frames.read(x, h, k)),
                Arrays.toString(want));
    }

    /** Everything that the face tells without changing anything. */
    String all() {
        StringJoiner all = new StringJoiner(" ");
        for (int h = 0; h < 2; h++) {
            all.add("\nhost " + h + ":");
            for (int what = 0; what < 8; what++) {
                all.add("" + x.host(h, what));
            }
            for (int p = 1; p <= 2; p++) {
                all.add("\nsocket " + p + ":");
                for (int what = 0; what < 11; what++) {
                    all.add("" + x.socket(h, p, what));
                }
            }
            int count = x.flying(h);
            for (int k = 0; k < count; k++) {
                all.add("\n" + Arrays.toString(Frames.read(x, h, k)));
            }
        }
        return all.toString();
    }

    /** A frame of 14 to 37 bytes arrives at host h, before all that is on the way to it; the other host must know h. */
    void arrive(int h, int... frame) {
        int others = x.flying(h);
        int ident = x.host(1 - h, IDENT);
        boolean small = frame.length < 18;
        x.ping(1 - h, 0, small ? frame.length + 6 : frame.length - 18);
        putFirst(h, others);
        if (small) {
            // The message went in two packets, the second being of the size that is wanted.
            x.disturb(h, 0);
            putFirst(h, others);
        }
        change(h, small ? secondOfPing(h, ident, frame.length) : pingFrame(h, ident, frame.length), frame);
        due.is(where() + "the type that carry(" + h + ") tells", x.carry(h), frame[2]);
    }

    private void putFirst(int h, int others) {
        for (int i = 0; i < others; i++) {
            x.disturb(h, 1);
        }
    }

    private static int[] pingFrame(int h, int ident, int size) {
        return packet(h, ident, 0, 1, Model.join(new int[] {8, 0, 0, 0, 0}, bytes(0, size - 18)));
    }

    private static int[] secondOfPing(int h, int ident, int size) {
        return packet(h, ident, 6, 1, bytes(19, size - 13));
    }

    /** The first frame on the way to host h becomes this one of the same size. */
    void rewrite(int h, int... frame) {
        int[] was = Frames.read(x, h, 0);
        due.is(where() + "size of the frame to rewrite", was.length, frame.length);
        change(h, was, frame);
    }

    private void change(int h, int[] was, int[] frame) {
        for (int i = 0; i < frame.length; i++) {
            int mask = was[i] ^ frame[i];
            if (mask != 0) {
                due.yes(where() + "alter(" + h + ", " + i + ", " + mask + ")", x.alter(h, i, mask));
            }
        }
    }

    /** The frame of a packet to host h, its checksum made. */
    static int[] packet(int h, int ident, int offsetAndMore, int protocol, int... data) {
        int[] head = {16 + h, 17 - h, 8, 10 + data.length, ident, offsetAndMore, 64, protocol, 0, 0, 0, 2 - h, 1 + h};
        int[] f = Model.join(head, data);
        Frames.seal(f);
        return f;
    }

    /** The frame of a segment to host h with at most 14 bytes of data. */
    static int[] segmentFrame(int h, int p, int flags, int seq, int ack, int window, int... data) {
        int[] head = {p, flags, 0, 0, 0, 0, window, 0, 0, 0};
        Frames.putPair(head, 2, seq);
        Frames.putPair(head, 4, ack);
        return packet(h, 0, 0, 6, Model.join(head, data));
    }

    /** A segment for socket 1 arrives at host h. */
    void segment(int h, int flags, int seq, int ack, int window, int... data) {
        arrive(h, segmentFrame(h, 1, flags, seq, ack, window, data));
    }

    /** A message of 25 to 48 bytes arrives at host h, in two packets. */
    void twoPackets(int h, int protocol, int... message) {
        arrive(h, packet(h, 77, 128, protocol, Model.part(message, 0, 24)));
        arrive(h, packet(h, 77, 6, protocol, Model.part(message, 24, message.length)));
    }

    static int[] bytes(int first, int count) {
        int[] row = new int[count];
        for (int i = 0; i < count; i++) {
            row[i] = first + i;
        }
        return row;
    }

    /** Host h's socket 1 gets so many bytes, 10, 11 and so on, in segments of at most 12; what it answers is dropped. */
    void fill(int h, int count) {
        for (int done = 0; done < count; done += 12) {
            int[] data = bytes(10 + done, Math.min(12, count - done));
            segment(h, ACK, x.socket(h, 1, RCV), x.socket(h, 1, NXT), 24, data);
        }
        is(h, IN, count);
        drop(1 - h);
    }

    /** The test's method and line, so that a wrong answer can be found. */
    private static String where() {
        for (StackTraceElement e : new Throwable().getStackTrace()) {
            if (!e.getClassName().equals("Lab")) {
                return e.getClassName() + ":" + e.getLineNumber() + " ";
            }
        }
        return "";
    }

    /** Whether all is there that is the same in every packet: length, addresses, checksums, what is 0 or 64 always. */
    private static boolean isRight(int[] f, int[] m) {
        int[] sealed = f.clone();
        Frames.seal(sealed);
        boolean right = Arrays.equals(f, sealed) && f[3] == f.length - 3 && f[6] == 64 && f[8] == 0
                && f[11] == f[1] - 15 && f[12] == 3 - f[11];
        for (int b : f) {
            right &= b >= 0 && b <= 255;
        }
        boolean isEcho = f[7] == 1;
        return right && (f[5] != 0 || m.length >= (isEcho ? 5 : 10) && m[isEcho ? 1 : 7] == 0);
    }

    /** One frame as text: an ask; a segment as flags, SEQ, ACK number, window and data; an echo; or a piece. */
    static String text(int[] f) {
        if (f[2] == 6) {
            return "ask " + f[3] + " to " + f[0] + " from " + f[4];
        }
        int[] m = Model.part(f, 13, f.length);
        String right = isRight(f, m) ? "" : " WRONG";
        if (f[5] != 0) {
            return "piece " + f[5] + " of " + f[4] + " size " + m.length + right;
        }
        if (f[7] == 1) {
            return "echo " + m[0] + " token " + m[4] + " size " + m.length + right;
        }
        String flags = ((m[1] & FIN) != 0 ? "F" : "") + ((m[1] & SYN) != 0 ? "S" : "") + ((m[1] & RST) != 0 ? "R" : "")
                + ((m[1] & ACK) != 0 ? "A" : "");
        StringJoiner data = new StringJoiner(" ");
        data.add(flags).add("" + (m[2] * 256 + m[3])).add("" + (m[4] * 256 + m[5])).add("" + m[6]);
        for (int i = 10; i < m.length; i++) {
            data.add((i == 10 ? ":" : "") + m[i]);
        }
        return (m[0] == 1 ? "" : "socket " + m[0] + " ") + data + right;
    }
}
