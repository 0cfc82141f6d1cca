import java.util.ArrayList;
import java.util.Arrays;
import java.util.HashMap;
import java.util.List;
import java.util.Map;

/**
 * The document said once more, as plainly as the Java library allows: lists, maps and fresh arrays, no reuse.
 * ModelTest holds WireHosts against it. It shares no code with the program, so a slip in one shows as a difference.
 */
final class Model {
    static final int CLOSED = 0, LISTEN = 1, SYN_SENT = 2, SYN_GOT = 3, OPEN = 4, FIN_1 = 5, FIN_2 = 6,
            CLOSE_WAIT = 7, BOTH = 8, LAST = 9, TIME = 10;
    static final int FIN = 1, SYN = 2, RST = 4, ACK = 16;

    int clock = 0;
    final List<List<int[]>> way = List.of(new ArrayList<>(), new ArrayList<>());
    final Machine[] machines = {new Machine(0), new Machine(1)};

    static int mod(int x) {
        return Math.floorMod(x, 65536);
    }

    static int check(int[] row) {
        long sum = 0;
        for (int i = 0; i < row.length; i += 2) {
            sum += row[i] * 256L + (i + 1 < row.length ? row[i + 1] : 0);
        }
        while (sum > 65535) {
            sum = sum / 65536 + sum % 65536;
        }
        return (int) (65535 - sum);
    }

    static int[] join(int[] a, int... b) {
        int[] all = Arrays.copyOf(a, a.length + b.length);
        System.arraycopy(b, 0, all, a.length, b.length);
        return all;
    }

    static int[] part(int[] a, int from, int to) {
        return Arrays.copyOfRange(a, from, to);
    }

    static final class Gathering {
        int ident, protocol, age, whole = -1;
        final Map<Integer, Integer> came = new HashMap<>();
    }

    final class Machine {
        final int h;
        int known, station, askTimer, ident, pongs, token = -1;
        final List<int[]> line = new ArrayList<>();
        final Gathering[] slots = new Gathering[2];
        final Plug[] plugs;

        Machine(int h) {
            this.h = h;
            plugs = new Plug[] {null, new Plug(this, 1), new Plug(this, 2)};
        }

        void frame(int to, int type, int[] rest) {
            List<int[]> w = way.get(1 - h);
            if (w.size() < 16) {
                w.add(join(new int[] {to, 16 + h, type}, rest));
            }
        }

        void ask(int kind, int to) {
            frame(to, 6, new int[] {kind, 16 + h, 1 + h, 2 - h});
        }

        void packet(int[] p) {
            if (known > 0) {
                frame(station, 8, p);
                return;
            }
            if (line.size() < 4) {
                line.add(p);
            }
            if (askTimer == 0) {
                ask(1, 255);
                askTimer = 4;
            }
        }

        void message(int protocol, int[] m) {
            int id = ident;
            ident = (ident + 1) % 256;
            for (int from = 0; from < m.length; from += 24) {
                int to = Math.min(m.length, from + 24);
                int[] head = {10 + to - from, id, from / 4 + (to < m.length ? 128 : 0), 64, protocol, 0, 0, 0,
                    1 + h, 2 - h};
                int c = check(head);
                head[6] = c / 256;
                head[7] = c % 256;
                packet(join(head, part(m, from, to)));
            }
        }

        void echo(int kind, int[] tokenAndData) {
            int[] m = join(new int[] {kind, 0, 0, 0}, tokenAndData);
            int c = check(m);
            m[2] = c / 256;
            m[3] = c % 256;
            message(1, m);
        }

        void arrive(int[] f) {
            if (f[0] != 16 + h && f[0] != 255) {
                return;
            }
            if (f[2] == 6 && f.length == 7 && (f[3] == 1 || f[3] == 2) && f[5] == 2 - h && f[6] == 1 + h) {
                station = f[4];
                known = 30;
                if (f[3] == 1) {
                    ask(2, station);
                }
                for (int[] p : line) {
                    frame(station, 8, p);
                }
                line.clear();
            } else if (f[2] == 8) {
                int[] p = part(f, 3, f.length);
                if (p.length >= 11 && p[0] == p.length && check(part(p, 0, 10)) == 0
                        && p[8] == 2 - h && p[9] == 1 + h) {
                    together(p);
                }
            }
        }

        void together(int[] p) {
            int offset = p[2] % 128 * 4;
            boolean more = p[2] >= 128;
            int[] data = part(p, 10, p.length);
            if (offset == 0 && !more) {
                whole(p[4], data);
                return;
            }
            if (offset + data.length > 48) {
                return;
            }
            int k = slotFor(p[1], p[4]);
            Gathering g = slots[k];
            for (int i = 0; i < data.length; i++) {
                g.came.putIfAbsent(offset + i, data[i]);
            }
            if (!more) {
                g.whole = offset + data.length;
            }
            int[] m = new int[Math.max(g.whole, 0)];
            for (int i = 0; i < g.whole; i++) {
                if (!g.came.containsKey(i)) {
                    return;
                }
                m[i] = g.came.get(i);
            }
            if (g.whole >= 0) {
                slots[k] = null;
                whole(g.protocol, m);
            }
        }

        int slotFor(int id, int protocol) {
            for (int k = 0; k < 2; k++) {
                if (slots[k] != null && slots[k].ident == id && slots[k].protocol == protocol) {
                    return k;
                }
            }
            int k = slots[0] == null ? 0 : slots[1] == null ? 1 : slots[1].age > slots[0].age ? 1 : 0;
            slots[k] = new Gathering();
            slots[k].ident = id;
            slots[k].protocol = protocol;
            return k;
        }

        void whole(int protocol, int[] m) {
            if (protocol == 1) {
                if (m.length >= 5 && check(m) == 0 && m[1] == 0) {
                    if (m[0] == 8) {
                        echo(0, part(m, 4, m.length));
                    } else if (m[0] == 0) {
                        pongs++;
                        token = m[4];
                    }
                }
            } else if (protocol == 6 && m.length >= 10 && m.length <= 42 && (m[0] == 1 || m[0] == 2)
                    && (m[1] & 0b11101000) == 0 && check(join(new int[] {2 - h, 1 + h, 6, m.length}, m)) == 0) {
                plugs[m[0]].arrive(m[1], m[2] * 256 + m[3], m[4] * 256 + m[5], m[6], part(m, 10, m.length));
            }
        }

        void tick() {
            askTimer = Math.max(0, askTimer - 1);
            known = Math.max(0, known - 1);
            for (int k = 0; k < 2; k++) {
                if (slots[k] != null && ++slots[k].age == 10) {
                    slots[k] = null;
                }
            }
            plugs[1].tick();
            plugs[2].tick();
        }
    }

    /** A socket. */
    final class Plug {
        final Machine m;
        final int p;
        int state, first, una, nxt, rcv, win, timer, rto, tries;
        boolean ending, finSent;
        List<Integer> out, in;
        Map<Integer, Integer> kept;
        Integer fin;

        Plug(Machine m, int p) {
            this.m = m;
            this.p = p;
            closed();
        }

        void closed() {
            state = first = una = nxt = rcv = win = timer = tries = 0;
            rto = 4;
            ending = finSent = false;
            out = new ArrayList<>();
            in = new ArrayList<>();
            kept = new HashMap<>();
            fin = null;
        }

        int room() {
            return 24 - in.size();
        }

        void go(int flags, int seq, int ack, List<Integer> data) {
            int[] s = {p, flags, mod(seq) / 256, mod(seq) % 256, mod(ack) / 256, mod(ack) % 256, room(), 0, 0, 0};
            for (int b : data) {
                s = join(s, b);
            }
            int c = check(join(new int[] {1 + m.h, 2 - m.h, 6, s.length}, s));
            s[8] = c / 256;
            s[9] = c % 256;
            m.message(6, s);
        }

        void go(int flags, int seq) {
            go(flags, seq, rcv, List.of());
        }

        /** Bytes OUT that were sent: all once the FIN was, else those with numbers below NXT. */
        int sent() {
            return finSent ? out.size() : state < OPEN ? 0 : mod(nxt - una);
        }

        void begin() {
            first = mod(1000 * m.h + 100 * p + clock);
            una = first;
            nxt = mod(first + 1);
            timer = rto;
        }

        void push() {
            if (state != OPEN && state != CLOSE_WAIT) {
                return;
            }
            int top = Math.min(win, 48);
            while (sent() < out.size() && mod(nxt - una) < top) {
                int from = sent();
                int n = Math.min(Math.min(out.size() - from, top - mod(nxt - una)), 32);
                go(ACK, nxt, rcv, out.subList(from, from + n));
                nxt = mod(nxt + n);
            }
            if (ending && sent() == out.size()) {
                go(FIN + ACK, nxt);
                finSent = true;
                nxt = mod(nxt + 1);
                state = state == OPEN ? FIN_1 : LAST;
            }
            if (timer == 0 && (nxt != una || sent() < out.size())) {
                timer = rto;
            }
        }

        void tick() {
            if (timer == 0 || --timer > 0) {
                return;
            }
            if (state == TIME) {
                closed();
                return;
            }
            if (++tries == 7) {
                go(RST, nxt);
                closed();
                return;
            }
            rto = Math.min(32, rto * 2);
            timer = rto;
            if (state == SYN_SENT) {
                go(SYN, first);
            } else if (state == SYN_GOT) {
                go(SYN + ACK, first);
            } else if (out.isEmpty()) {
                go(FIN + ACK, una);
            } else if (sent() > 0) {
                go(ACK, una, rcv, out.subList(0, Math.min(sent(), 32)));
            } else {
                go(ACK, una, rcv, out.subList(0, 1));
                nxt = mod(nxt + 1);
            }
        }

        void arrive(int flags, int seq, int ack, int window, int[] data) {
            boolean isFin = (flags & FIN) != 0, isSyn = (flags & SYN) != 0, isRst = (flags & RST) != 0,
                    isAck = (flags & ACK) != 0;
            int len = data.length + (isSyn ? 1 : 0) + (isFin ? 1 : 0);
            switch (state) {
                case CLOSED -> {
                    if (!isRst) {
                        go(RST + ACK, ack, seq + len, List.of());
                    }
                    return;
                }
                case LISTEN -> {
                    if (!isRst && isAck) {
                        go(RST, ack);
                    } else if (!isRst && isSyn) {
                        begin();
                        rcv = mod(seq + 1);
                        win = window;
                        state = SYN_GOT;
                        go(SYN + ACK, first);
                    }
                    return;
                }
                case SYN_SENT -> {
                    if (isAck && ack != nxt) {
                        if (!isRst) {
                            go(RST, ack);
                        }
                        return;
                    }
                    if (isRst) {
                        if (isAck) {
                            closed();
                        }
                        return;
                    }
                    if (isSyn) {
                        rcv = mod(seq + 1);
                        win = window;
                        if (isAck) {
                            una = nxt;
                            tries = 0;
                            timer = 0;
                            rto = 4;
                            state = OPEN;
                            go(ACK, nxt);
                            push();
                        } else {
                            state = SYN_GOT;
                            go(SYN + ACK, first);
                        }
                    }
                    return;
                }
                default -> {
                }
            }
            boolean fits = len == 0 ? seq == rcv || mod(seq - rcv) < room()
                    : room() > 0 && (mod(seq - rcv) < room() || mod(seq + len - 1 - rcv) < room());
            if (!fits) {
                if (!isRst) {
                    go(ACK, nxt);
                }
                if (state == TIME) {
                    timer = 8;
                }
                return;
            }
            if (isRst) {
                closed();
                return;
            }
            if (isSyn) {
                go(RST, nxt);
                closed();
                return;
            }
            if (!isAck) {
                return;
            }
            if (state == SYN_GOT) {
                if (ack != nxt) {
                    go(RST, ack);
                    return;
                }
                state = OPEN;
            }
            arriveOpen(isFin, seq, ack, window, data);
        }

        void arriveOpen(boolean isFin, int seq, int ack, int window, int[] data) {
            int len = data.length + (isFin ? 1 : 0);
            int step = mod(ack - una);
            if (step >= 1 && step <= mod(nxt - una)) {
                for (int i = 0; i < step && !out.isEmpty(); i++) {
                    out.remove(0);
                }
                una = ack;
                tries = 0;
                rto = 4;
                timer = una == nxt ? 0 : rto;
            } else if (ack != una && mod(ack - nxt) >= 1 && mod(ack - nxt) <= 32767) {
                go(ACK, nxt);
                return;
            }
            win = window;
            if (finSent && una == nxt) {
                if (state == LAST) {
                    closed();
                    return;
                }
                if (state == BOTH) {
                    state = TIME;
                    timer = 8;
                }
                if (state == FIN_1) {
                    state = FIN_2;
                }
            }
            if (state == OPEN || state == FIN_1 || state == FIN_2) {
                int room = room();
                for (int i = 0; i < data.length; i++) {
                    if (mod(seq + i - rcv) < room) {
                        kept.putIfAbsent(mod(seq + i), data[i]);
                    }
                }
                if (isFin && mod(seq + data.length - rcv) < room + 1) {
                    fin = mod(seq + data.length);
                }
                while (kept.containsKey(rcv)) {
                    in.add(kept.remove(rcv));
                    rcv = mod(rcv + 1);
                }
                if (fin != null && fin == rcv) {
                    rcv = mod(rcv + 1);
                    if (state == FIN_2) {
                        timer = 8;
                    }
                    state = state == OPEN ? CLOSE_WAIT : state == FIN_1 ? BOTH : TIME;
                }
            } else if (state == TIME && len > 0) {
                timer = 8;
            }
            if (len > 0) {
                go(ACK, nxt);
            }
            push();
        }
    }

    private boolean isHost(int h) {
        return h == 0 || h == 1;
    }

    private Plug plug(int h, int p) {
        return isHost(h) && (p == 1 || p == 2) ? machines[h].plugs[p] : null;
    }

    boolean listen(int h, int p) {
        Plug s = plug(h, p);
        if (s == null || s.state != CLOSED) {
            return false;
        }
        s.state = LISTEN;
        return true;
    }

    boolean connect(int h, int p) {
        Plug s = plug(h, p);
        if (s == null || s.state != CLOSED) {
            return false;
        }
        s.begin();
        s.state = SYN_SENT;
        s.go(SYN, s.first);
        return true;
    }

    boolean send(int h, int p, int v) {
        Plug s = plug(h, p);
        if (s == null || s.state != OPEN && s.state != CLOSE_WAIT || s.ending || v < 0 || v > 255
                || s.out.size() == 64) {
            return false;
        }
        s.out.add(v);
        s.push();
        return true;
    }

    int read(int h, int p) {
        Plug s = plug(h, p);
        if (s == null || s.in.isEmpty()) {
            return -1;
        }
        int room = s.room();
        int v = s.in.remove(0);
        if (room == 0 && (s.state == OPEN || s.state == FIN_1 || s.state == FIN_2)) {
            s.go(ACK, s.nxt);
        }
        return v;
    }

    boolean close(int h, int p) {
        Plug s = plug(h, p);
        if (s != null && (s.state == LISTEN || s.state == SYN_SENT)) {
            s.closed();
            return true;
        }
        if (s == null || s.state != OPEN && s.state != CLOSE_WAIT || s.ending) {
            return false;
        }
        s.ending = true;
        s.push();
        return true;
    }

    boolean abort(int h, int p) {
        Plug s = plug(h, p);
        if (s == null || s.state == CLOSED) {
            return false;
        }
        if (s.state != LISTEN && s.state != SYN_SENT && s.state != TIME) {
            s.go(RST, s.nxt);
        }
        s.closed();
        return true;
    }

    boolean ping(int h, int token, int n) {
        if (!isHost(h) || token < 0 || token > 255 || n < 0 || n > 43) {
            return false;
        }
        int[] rest = new int[1 + n];
        rest[0] = token;
        for (int i = 0; i < n; i++) {
            rest[1 + i] = (token + i) & 255;
        }
        machines[h].echo(8, rest);
        return true;
    }

    int carry(int h) {
        if (!isHost(h) || way.get(h).isEmpty()) {
            return -1;
        }
        int[] f = way.get(h).remove(0);
        machines[h].arrive(f);
        return f[2];
    }

    boolean disturb(int h, int how) {
        if (!isHost(h) || way.get(h).isEmpty() || how < 0 || how > 2 || how == 2 && way.get(h).size() == 16) {
            return false;
        }
        List<int[]> w = way.get(h);
        if (how == 2) {
            w.add(w.get(0).clone());
        } else {
            int[] f = w.remove(0);
            if (how == 1) {
                w.add(f);
            }
        }
        return true;
    }

    boolean alter(int h, int k, int mask) {
        if (!isHost(h) || way.get(h).isEmpty() || k < 0 || k >= way.get(h).get(0).length || mask < 1 || mask > 255) {
            return false;
        }
        way.get(h).get(0)[k] ^= mask;
        return true;
    }

    int tick(int n) {
        if (n < 1 || n > 60) {
            return -1;
        }
        for (int i = 0; i < n; i++) {
            clock++;
            machines[0].tick();
            machines[1].tick();
        }
        return clock;
    }

    int flying(int h) {
        return isHost(h) ? way.get(h).size() : -1;
    }

    int octet(int h, int k, int i) {
        if (!isHost(h) || k < 0 || k >= way.get(h).size()) {
            return -1;
        }
        int[] f = way.get(h).get(k);
        return i == -1 ? f.length : i < 0 || i >= f.length ? -1 : f[i];
    }

    int socket(int h, int p, int what) {
        Plug s = plug(h, p);
        if (s == null || what < 0 || what > 10) {
            return -1;
        }
        int[] all = {s.state, s.una, s.nxt, s.rcv, s.win, s.out.size(), s.in.size(), s.timer, s.rto, s.tries,
            s.ending ? 1 : 0};
        return all[what];
    }

    int host(int h, int what) {
        if (!isHost(h) || what < 0 || what > 7) {
            return -1;
        }
        Machine m = machines[h];
        int slots = (m.slots[0] == null ? 0 : 1) + (m.slots[1] == null ? 0 : 1);
        int[] all = {m.known, m.line.size(), m.pongs, m.token, slots, m.ident, m.askTimer, m.station};
        return all[what];
    }
}
