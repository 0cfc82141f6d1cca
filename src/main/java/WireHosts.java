import java.util.Arrays;

/** Two hosts on one wire, from frames to streams. What each call does is told in the document, promise by promise. */
public final class WireHosts {
    /** Refused, or nothing there. */
    public static final int NONE = -1;

    private static final int MOST_TICKS = 60;
    private static final int MOST_FRAMES = 16;
    private static final int LOSE = 0;
    private static final int PUT_LAST = 1;
    private static final int DOUBLE = 2;

    /** ways[h] holds the frames on the way to host h. */
    private final Rows[] ways;
    private final Host[] hosts;
    private int clock;

    public WireHosts() {
        Rows toZero = new Rows(MOST_FRAMES, Link.FRAME_SIZE);
        Rows toOne = new Rows(MOST_FRAMES, Link.FRAME_SIZE);
        ways = new Rows[] {toZero, toOne};
        hosts = new Host[] {new Host(0, toOne), new Host(1, toZero)};
    }

    public boolean listen(int h, int p) {
        Endpoint endpoint = endpointAt(h, p);
        return endpoint != null && endpoint.startListening();
    }

    public boolean connect(int h, int p) {
        Endpoint endpoint = endpointAt(h, p);
        return endpoint != null && endpoint.startConnecting(clock) && hosts[h].sendOut();
    }

    public boolean send(int h, int p, int v) {
        Endpoint endpoint = endpointAt(h, p);
        return endpoint != null && endpoint.offerByte(v) && hosts[h].sendOut();
    }

    public int read(int h, int p) {
        Endpoint endpoint = endpointAt(h, p);
        if (endpoint == null) {
            return NONE;
        }
        int value = endpoint.takeByte();
        hosts[h].sendOut();
        return value;
    }

    public boolean close(int h, int p) {
        Endpoint endpoint = endpointAt(h, p);
        return endpoint != null && endpoint.startEnding() && hosts[h].sendOut();
    }

    public boolean abort(int h, int p) {
        Endpoint endpoint = endpointAt(h, p);
        return endpoint != null && endpoint.breakOff() && hosts[h].sendOut();
    }

    public boolean ping(int h, int token, int n) {
        return isHost(h) && hosts[h].askEcho(token, n) && hosts[h].sendOut();
    }

    public int carry(int h) {
        if (flying(h) < 1) {
            return NONE;
        }
        int type = ways[h].at(0, Link.TYPE_AT);
        if (hosts[h].takeFrame(ways[h])) {
            hosts[h].takeMessage(clock);
        }
        hosts[h].sendOut();
        return type;
    }

    public boolean disturb(int h, int how) {
        if (flying(h) < 1) {
            return false;
        }
        switch (how) {
            case LOSE:
                ways[h].dropFirst();
                return true;
            case PUT_LAST:
                ways[h].putFirstLast();
                return true;
            case DOUBLE:
                return ways[h].copyFirstBehind();
            default:
                return false;
        }
    }

    public boolean alter(int h, int k, int mask) {
        return isHost(h) && mask >= 1 && mask <= 255 && ways[h].alterFirst(k, mask);
    }

    public int tick(int n) {
        if (n < 1 || n > MOST_TICKS) {
            return NONE;
        }
        for (int i = 0; i < n; i++) {
            clock++;
            for (Host each : hosts) {
                each.passTick();
                each.sendOut();
            }
        }
        return clock;
    }

    public int flying(int h) {
        return isHost(h) ? ways[h].count() : NONE;
    }

    public int octet(int h, int k, int i) {
        if (!isHost(h)) {
            return NONE;
        }
        return i == NONE ? ways[h].sizeOf(k) : ways[h].at(k, i);
    }

    public int socket(int h, int p, int what) {
        Endpoint endpoint = endpointAt(h, p);
        return endpoint == null ? NONE : endpoint.about(what);
    }

    public int host(int h, int what) {
        return isHost(h) ? hosts[h].about(what) : NONE;
    }

    private boolean isHost(int h) {
        return h == 0 || h == 1;
    }

    private Endpoint endpointAt(int h, int p) {
        return isHost(h) ? hosts[h].endpointAt(p) : null;
    }

    /** Arithmetic that the layers share: numbers of two bytes, modulo 65536, and the check of a row. */
    static final class Numbers {
        /** Also the mask that takes a number modulo 65536. */
        static final int TOP = 65535;
        // The sum of a row's pairs stays far below 65536 * 65536, so two rounds are enough.
        private static final int FOLDS = 4;

        private Numbers() {
        }

        static int pairAt(int[] row, int at) {
            return (row[at] << 8) + row[at + 1];
        }

        static void putPair(int[] row, int at, int number) {
            row[at] = (number >> 8) & 255;
            row[at + 1] = number & 255;
        }

        /** The check of the bytes, with a sum to start from for pairs that stand before them. */
        static int check(int start, int[] row, int from, int size) {
            int sum = start;
            for (int i = 0; i < size; i++) {
                sum += (i & 1) == 0 ? row[from + i] << 8 : row[from + i];
            }
            for (int i = 0; i < FOLDS && sum > TOP; i++) {
                sum = (sum >> 16) + (sum & TOP);
            }
            return TOP - sum;
        }
    }

    /** Rows of bytes in order, at most so many; one that comes when it is full is lost. */
    static final class Rows {
        private final int most;
        private final int width;
        private final int[] bytes;
        private final int[] sizes;
        private int count;

        Rows(int most, int width) {
            this.most = most;
            this.width = width;
            // One row to spare: the first of a full queue is copied behind the last before it leaves its place.
            this.bytes = new int[(most + 1) * width];
            this.sizes = new int[most + 1];
        }

        int count() {
            return count;
        }

        int sizeOf(int k) {
            return k < 0 || k >= count ? NONE : sizes[k];
        }

        int at(int k, int i) {
            return i < 0 || i >= sizeOf(k) ? NONE : bytes[k * width + i];
        }

        void add(int[] row, int size) {
            if (count < most && size >= 0 && size <= width && size <= row.length) {
                System.arraycopy(row, 0, bytes, count * width, size);
                sizes[count] = size;
                count++;
            }
        }

        /** Moves the first row into target, from that place on; answers its size, 0 if there is none. */
        int takeFirst(int[] target, int from) {
            if (count == 0 || from < 0 || from > target.length - sizes[0]) {
                return 0;
            }
            int size = sizes[0];
            System.arraycopy(bytes, 0, target, from, size);
            dropFirst();
            return size;
        }

        void dropFirst() {
            if (count > 0) {
                count--;
                System.arraycopy(bytes, width, bytes, 0, count * width);
                System.arraycopy(sizes, 1, sizes, 0, count);
            }
        }

        void putFirstLast() {
            if (count > 0) {
                copyFirstToEnd();
                count++;
                dropFirst();
            }
        }

        boolean copyFirstBehind() {
            if (count == 0 || count >= most) {
                return false;
            }
            copyFirstToEnd();
            count++;
            return true;
        }

        boolean alterFirst(int i, int mask) {
            if (i < 0 || i >= sizeOf(0)) {
                return false;
            }
            bytes[i] ^= mask;
            return true;
        }

        private void copyFirstToEnd() {
            System.arraycopy(bytes, 0, bytes, count * width, width);
            sizes[count] = sizes[0];
        }
    }

    /** A host's side of the wire: whether the other's station is known, asking for it, and the line of packets. */
    static final class Link {
        static final int TYPE_AT = 2;
        static final int HEAD_SIZE = 3;
        static final int PACKET_SIZE = 34;
        static final int FRAME_SIZE = HEAD_SIZE + PACKET_SIZE;
        static final int ASK_TYPE = 6;
        static final int PACKET_TYPE = 8;
        private static final int ANY_STATION = 255;
        private static final int FIRST_STATION = 16;
        private static final int FIRST_ADDRESS = 1;
        private static final int ASK_SIZE = 7;
        private static final int QUESTION = 1;
        private static final int ANSWER = 2;
        private static final int MOST_IN_LINE = 4;
        private static final int ASK_TICKS = 4;
        private static final int KNOWN_TICKS = 30;

        private final int number;
        private final Rows way;
        private final Rows line;
        private final int[] frame;
        private int knownFor;
        private int station;
        private int askTimer;

        Link(int number, Rows way) {
            this.number = number;
            this.way = way;
            this.line = new Rows(MOST_IN_LINE, PACKET_SIZE);
            this.frame = new int[FRAME_SIZE];
        }

        static int addressOf(int host) {
            return FIRST_ADDRESS + host;
        }

        boolean isForMe(int toStation) {
            return toStation == FIRST_STATION + number || toStation == ANY_STATION;
        }

        void sendPacket(int[] packet, int size) {
            if (knownFor > 0) {
                System.arraycopy(packet, 0, frame, HEAD_SIZE, size);
                sendFrame(station, PACKET_TYPE, HEAD_SIZE + size);
                return;
            }
            line.add(packet, size);
            if (askTimer == 0) {
                askTimer = ASK_TICKS;
                sendAsk(QUESTION, ANY_STATION);
            }
        }

        void takeAsk(int[] arrived, int size) {
            if (!isRightAsk(arrived, size)) {
                return;
            }
            station = arrived[HEAD_SIZE + 1];
            knownFor = KNOWN_TICKS;
            if (arrived[HEAD_SIZE] == QUESTION) {
                sendAsk(ANSWER, station);
            }
            for (int left = line.count(); left > 0; left--) {
                int packetSize = line.takeFirst(frame, HEAD_SIZE);
                sendFrame(station, PACKET_TYPE, HEAD_SIZE + packetSize);
            }
        }

        void passTick() {
            if (askTimer > 0) {
                askTimer--;
            }
            if (knownFor > 0) {
                knownFor--;
            }
        }

        private boolean isRightAsk(int[] arrived, int size) {
            return size == ASK_SIZE
                    && (arrived[HEAD_SIZE] == QUESTION || arrived[HEAD_SIZE] == ANSWER)
                    && arrived[HEAD_SIZE + 2] == addressOf(1 - number)
                    && arrived[HEAD_SIZE + 3] == addressOf(number);
        }

        private void sendAsk(int kind, int toStation) {
            frame[HEAD_SIZE] = kind;
            frame[HEAD_SIZE + 1] = FIRST_STATION + number;
            frame[HEAD_SIZE + 2] = addressOf(number);
            frame[HEAD_SIZE + 3] = addressOf(1 - number);
            sendFrame(toStation, ASK_TYPE, ASK_SIZE);
        }

        private void sendFrame(int toStation, int type, int size) {
            frame[0] = toStation;
            frame[1] = FIRST_STATION + number;
            frame[TYPE_AT] = type;
            way.add(frame, size);
        }
    }

    /** The pieces of one message that came so far. */
    static final class Slot {
        private static final int OLDEST = 10;

        private final int[] bytes;
        private boolean used;
        private int ident;
        private int protocol;
        private int age;
        private int whole;

        Slot() {
            bytes = new int[Pieces.MESSAGE_SIZE];
        }

        boolean holds(int askedIdent, int askedProtocol) {
            return used && ident == askedIdent && protocol == askedProtocol;
        }

        void begin(int newIdent, int newProtocol) {
            used = true;
            ident = newIdent;
            protocol = newProtocol;
            age = 0;
            whole = NONE;
            Arrays.fill(bytes, NONE);
        }

        void put(int at, int value) {
            if (at >= 0 && at < bytes.length && bytes[at] == NONE) {
                bytes[at] = value;
            }
        }

        boolean isWhole() {
            if (whole == NONE) {
                return false;
            }
            for (int i = 0; i < whole && i < bytes.length; i++) {
                if (bytes[i] == NONE) {
                    return false;
                }
            }
            return true;
        }

        void passTick() {
            age++;
            if (age >= OLDEST) {
                used = false;
            }
        }
    }

    /** Puts packets together; the latest whole message stands in its fields. */
    static final class Pieces {
        static final int MESSAGE_SIZE = 48;
        static final int HEAD_SIZE = 10;
        static final int DATA_SIZE = Link.PACKET_SIZE - HEAD_SIZE;
        static final int MORE = 128;

        private final Slot first;
        private final Slot second;
        private final int[] message;
        private int size;
        private int protocol;

        Pieces(int[] message) {
            this.message = message;
            this.first = new Slot();
            this.second = new Slot();
        }

        /** Takes a packet that is right and meant for this host; true if there is a whole message now. */
        boolean takePacket(int[] packet, int packetSize) {
            int offset = (packet[2] & (MORE - 1)) * 4;
            boolean more = (packet[2] & MORE) != 0;
            int count = packetSize - HEAD_SIZE;
            if (offset == 0 && !more) {
                keepMessage(packet, HEAD_SIZE, count, packet[4]);
                return true;
            }
            if (offset + count > MESSAGE_SIZE) {
                return false;
            }
            Slot slot = slotFor(packet[1], packet[4]);
            for (int i = 0; i < count; i++) {
                slot.put(offset + i, packet[HEAD_SIZE + i]);
            }
            if (!more) {
                slot.whole = offset + count;
            }
            if (!slot.isWhole()) {
                return false;
            }
            keepMessage(slot.bytes, 0, slot.whole, slot.protocol);
            slot.used = false;
            return true;
        }

        int slotsInUse() {
            return (first.used ? 1 : 0) + (second.used ? 1 : 0);
        }

        void passTick() {
            first.passTick();
            second.passTick();
        }

        private void keepMessage(int[] row, int from, int count, int itsProtocol) {
            System.arraycopy(row, from, message, 0, count);
            size = count;
            protocol = itsProtocol;
        }

        private Slot slotFor(int ident, int protocol) {
            if (first.holds(ident, protocol)) {
                return first;
            }
            if (second.holds(ident, protocol)) {
                return second;
            }
            Slot slot = slotToBegin();
            slot.begin(ident, protocol);
            return slot;
        }

        private Slot slotToBegin() {
            if (!first.used) {
                return first;
            }
            if (!second.used) {
                return second;
            }
            return second.age > first.age ? second : first;
        }
    }

    /** A segment that arrived, read out of the row in which its message stands. */
    static final class Segment {
        static final int PROTOCOL = 6;
        static final int HEAD_SIZE = 10;
        static final int MOST_DATA = 32;
        static final int CHECK_AT = 8;
        static final int FIN = 1;
        static final int SYN = 2;
        static final int RST = 4;
        static final int ACK = 16;
        private static final int ALL_FLAGS = FIN + SYN + RST + ACK;

        private final int[] row;
        private int dataCount;
        private int number;
        private int flags;
        private int seq;
        private int ack;
        private int window;

        Segment(int[] row) {
            this.row = row;
        }

        /** What the addresses, the protocol and the length add to the sum of a segment's check. */
        static int startOfCheck(int sender, int meant, int size) {
            return (sender << 8) + meant + (PROTOCOL << 8) + size;
        }

        /** Reads the row; false if it is no right segment. */
        boolean isRight(int size, int sender, int meant) {
            if (size < HEAD_SIZE || size > HEAD_SIZE + MOST_DATA) {
                return false;
            }
            dataCount = size - HEAD_SIZE;
            number = row[0];
            flags = row[1];
            seq = Numbers.pairAt(row, 2);
            ack = Numbers.pairAt(row, 4);
            window = row[6];
            return (flags & ~ALL_FLAGS) == 0 && Numbers.check(startOfCheck(sender, meant, size), row, 0, size) == 0;
        }

        boolean has(int flag) {
            return (flags & flag) != 0;
        }

        int length() {
            return dataCount + (has(SYN) ? 1 : 0) + (has(FIN) ? 1 : 0);
        }

        int dataAt(int i) {
            return i < 0 || i >= dataCount ? NONE : row[HEAD_SIZE + i];
        }
    }

    /** What a socket sends: its numbers, the bytes OUT, and its end. */
    static final class Sending {
        private static final int MOST_OUT = 64;
        private static final int MOST_UNCONFIRMED = 48;
        private static final int AHEAD = 32767;

        private final int[] bytes;
        private int count;
        private int first;
        private int una;
        private int nxt;
        private int window;
        private boolean ending;

        Sending() {
            bytes = new int[MOST_OUT];
        }

        void clear() {
            count = 0;
            first = 0;
            una = 0;
            nxt = 0;
            window = 0;
            ending = false;
        }

        void begin(int number) {
            first = number & Numbers.TOP;
            una = first;
            nxt = (first + 1) & Numbers.TOP;
        }

        boolean isFull() {
            return count >= MOST_OUT;
        }

        void add(int value) {
            if (count < MOST_OUT) {
                bytes[count] = value;
                count++;
            }
        }

        void countSent(int numbers) {
            nxt = (nxt + numbers) & Numbers.TOP;
        }

        int sentCount() {
            // A FIN that was sent has a number too, behind all bytes OUT.
            return Math.min((nxt - una) & Numbers.TOP, count);
        }

        int unsentCount() {
            return count - sentCount();
        }

        /** How many bytes may go in one segment now, with the other's window as it is. */
        int sendableCount() {
            int sent = sentCount();
            int open = Math.min(window, MOST_UNCONFIRMED) - sent;
            return Math.min(Math.min(count - sent, open), Segment.MOST_DATA);
        }

        boolean confirms(int ack) {
            int distance = (ack - una) & Numbers.TOP;
            return distance >= 1 && distance <= ((nxt - una) & Numbers.TOP);
        }

        boolean isAhead(int ack) {
            int distance = (ack - nxt) & Numbers.TOP;
            return ack != una && distance >= 1 && distance <= AHEAD;
        }

        void confirm(int ack) {
            // SYN and FIN have numbers, but are no bytes OUT.
            int gone = Math.min((ack - una) & Numbers.TOP, count);
            count -= gone;
            System.arraycopy(bytes, gone, bytes, 0, count);
            una = ack;
        }

        boolean isAllConfirmed() {
            return una == nxt;
        }

        void copyTo(int[] row, int at, int from, int size) {
            if (from >= 0 && size >= 0 && from + size <= count && at >= 0 && at + size <= row.length) {
                System.arraycopy(bytes, from, row, at, size);
            }
        }
    }

    /** What a socket gets: the number that is due, the bytes IN, and what came early. */
    static final class Receiving {
        private static final int MOST_IN = 24;
        // A power of two above MOST_IN: a number's place is the same on both sides of the wrap.
        private static final int KEPT_SIZE = 32;

        private final int[] bytes;
        private final int[] kept;
        private int count;
        private int rcv;
        private int finNumber;

        Receiving() {
            bytes = new int[MOST_IN];
            kept = new int[KEPT_SIZE];
            Arrays.fill(kept, NONE);
            finNumber = NONE;
        }

        void clear() {
            Arrays.fill(kept, NONE);
            count = 0;
            rcv = 0;
            finNumber = NONE;
        }

        int room() {
            return MOST_IN - count;
        }

        void startAfter(int number) {
            rcv = (number + 1) & Numbers.TOP;
        }

        boolean fits(Segment s) {
            int length = s.length();
            if (length == 0) {
                return s.seq == rcv || isNear(s.seq, room());
            }
            return isNear(s.seq, room()) || isNear(s.seq + length - 1, room());
        }

        void keep(Segment s) {
            int room = room();
            for (int i = 0; i < s.dataCount; i++) {
                int place = (s.seq + i) & (KEPT_SIZE - 1);
                if (isNear(s.seq + i, room) && kept[place] == NONE) {
                    kept[place] = s.dataAt(i);
                }
            }
            int end = (s.seq + s.dataCount) & Numbers.TOP;
            if (s.has(Segment.FIN) && isNear(end, room + 1)) {
                finNumber = end;
            }
        }

        /** Kept bytes go IN as far as there is no gap; true if the other's FIN is reached so. */
        boolean advance() {
            for (int i = 0; i < MOST_IN && count < MOST_IN; i++) {
                int place = rcv & (KEPT_SIZE - 1);
                if (kept[place] == NONE) {
                    break;
                }
                bytes[count] = kept[place];
                count++;
                kept[place] = NONE;
                rcv = (rcv + 1) & Numbers.TOP;
            }
            if (rcv != finNumber) {
                return false;
            }
            rcv = (rcv + 1) & Numbers.TOP;
            return true;
        }

        int takeFirst() {
            if (count == 0) {
                return NONE;
            }
            int value = bytes[0];
            count--;
            System.arraycopy(bytes, 1, bytes, 0, count);
            return value;
        }

        private boolean isNear(int number, int limit) {
            return ((number - rcv) & Numbers.TOP) < limit;
        }
    }

    /** One socket. What it sends goes to its host's outbox and from there, when the call ends, to the wire. */
    static final class Endpoint {
        private static final int CLOSED = 0;
        private static final int LISTEN = 1;
        private static final int SYN_SENT = 2;
        private static final int SYN_GOT = 3;
        private static final int OPEN = 4;
        private static final int FIN_1 = 5;
        private static final int FIN_2 = 6;
        private static final int CLOSE_WAIT = 7;
        private static final int BOTH = 8;
        private static final int LAST = 9;
        private static final int TIME = 10;
        private static final int FIRST_RTO = 4;
        private static final int MOST_RTO = 32;
        private static final int MOST_TRIES = 7;
        private static final int TIME_TICKS = 8;
        private static final int OFF = 0;

        private final int hostNumber;
        private final int number;
        private final Rows outbox;
        private final int[] row;
        private final Sending sending;
        private final Receiving receiving;
        private int state;
        private int timer;
        private int rto;
        private int tries;

        Endpoint(int hostNumber, int number, Rows outbox) {
            this.hostNumber = hostNumber;
            this.number = number;
            this.outbox = outbox;
            this.row = new int[Host.OUTBOX_SIZE];
            this.sending = new Sending();
            this.receiving = new Receiving();
            this.rto = FIRST_RTO;
        }

        boolean startListening() {
            if (state != CLOSED) {
                return false;
            }
            state = LISTEN;
            return true;
        }

        boolean startConnecting(int clock) {
            if (state != CLOSED) {
                return false;
            }
            begin(clock);
            state = SYN_SENT;
            emit(Segment.SYN, sending.first);
            return true;
        }

        boolean offerByte(int value) {
            if (!isSendingState() || sending.ending || value < 0 || value > 255 || sending.isFull()) {
                return false;
            }
            sending.add(value);
            push();
            return true;
        }

        int takeByte() {
            boolean wasFull = receiving.room() == 0;
            int value = receiving.takeFirst();
            if (wasFull && isReceivingState()) {
                emitAck();
            }
            return value;
        }

        boolean startEnding() {
            if (state == LISTEN || state == SYN_SENT) {
                shut();
                return true;
            }
            if (!isSendingState() || sending.ending) {
                return false;
            }
            sending.ending = true;
            push();
            return true;
        }

        boolean breakOff() {
            if (state == CLOSED) {
                return false;
            }
            if (state != LISTEN && state != SYN_SENT && state != TIME) {
                emit(Segment.RST, sending.nxt);
            }
            shut();
            return true;
        }

        void passTick() {
            if (timer == OFF) {
                return;
            }
            timer--;
            if (timer == OFF) {
                timeIsOver();
            }
        }

        void takeSegment(Segment s, int clock) {
            if (state == CLOSED) {
                answerWhenClosed(s);
            } else if (state == LISTEN) {
                answerWhenListening(s, clock);
            } else if (state == SYN_SENT) {
                answerWhenSynSent(s);
                push();
            } else if (isAdmitted(s) && isOpenFor(s) && takeConfirmation(s)) {
                takeContents(s);
                push();
            }
        }

        int about(int what) {
            switch (what) {
                case 0: return state;
                case 1: return sending.una;
                case 2: return sending.nxt;
                case 3: return receiving.rcv;
                case 4: return sending.window;
                case 5: return sending.count;
                case 6: return receiving.count;
                case 7: return timer;
                case 8: return rto;
                case 9: return tries;
                case 10: return sending.ending ? 1 : 0;
                default: return NONE;
            }
        }

        private boolean isSendingState() {
            return state == OPEN || state == CLOSE_WAIT;
        }

        private boolean isReceivingState() {
            return state == OPEN || state == FIN_1 || state == FIN_2;
        }

        private void begin(int clock) {
            sending.begin(1000 * hostNumber + 100 * number + clock);
            timer = rto;
        }

        private void shut() {
            state = CLOSED;
            sending.clear();
            receiving.clear();
            timer = OFF;
            rto = FIRST_RTO;
            tries = 0;
        }

        private void push() {
            if (!isSendingState()) {
                return;
            }
            pushBytes();
            if (sending.ending && sending.unsentCount() == 0) {
                emit(Segment.FIN + Segment.ACK, sending.nxt);
                sending.countSent(1);
                state = state == OPEN ? FIN_1 : LAST;
            }
            if (timer == OFF && (!sending.isAllConfirmed() || sending.unsentCount() > 0)) {
                timer = rto;
            }
        }

        private void pushBytes() {
            // Each round sends a byte at least.
            for (int i = 0; i < Sending.MOST_OUT; i++) {
                int size = sending.sendableCount();
                if (size <= 0) {
                    return;
                }
                emitWhole(Segment.ACK, sending.nxt, receiving.rcv, sending.sentCount(), size);
                sending.countSent(size);
            }
        }

        private void timeIsOver() {
            if (state == TIME) {
                shut();
                return;
            }
            tries++;
            if (tries >= MOST_TRIES) {
                emit(Segment.RST, sending.nxt);
                shut();
                return;
            }
            rto = Math.min(2 * rto, MOST_RTO);
            timer = rto;
            if (state == SYN_SENT) {
                emit(Segment.SYN, sending.first);
            } else if (state == SYN_GOT) {
                emit(Segment.SYN + Segment.ACK, sending.first);
            } else {
                sendAgain();
            }
        }

        private void sendAgain() {
            int sent = sending.sentCount();
            if (sent > 0) {
                emitWhole(Segment.ACK, sending.una, receiving.rcv, 0, Math.min(sent, Segment.MOST_DATA));
            } else if (sending.count > 0) {
                // The window is shut: one byte goes all the same, so that its answer tells when it opens.
                emitWhole(Segment.ACK, sending.una, receiving.rcv, 0, 1);
                sending.countSent(1);
            } else {
                emitWhole(Segment.FIN + Segment.ACK, sending.una, receiving.rcv, 0, 0);
            }
        }

        private void answerWhenClosed(Segment s) {
            if (!s.has(Segment.RST)) {
                emitWhole(Segment.RST + Segment.ACK, s.ack, s.seq + s.length(), 0, 0);
            }
        }

        private void answerWhenListening(Segment s, int clock) {
            if (s.has(Segment.RST)) {
                return;
            }
            if (s.has(Segment.ACK)) {
                emit(Segment.RST, s.ack);
            } else if (s.has(Segment.SYN)) {
                begin(clock);
                receiving.startAfter(s.seq);
                sending.window = s.window;
                state = SYN_GOT;
                emit(Segment.SYN + Segment.ACK, sending.first);
            }
        }

        private void answerWhenSynSent(Segment s) {
            if (s.has(Segment.ACK) && s.ack != sending.nxt) {
                if (!s.has(Segment.RST)) {
                    emit(Segment.RST, s.ack);
                }
            } else if (s.has(Segment.RST)) {
                if (s.has(Segment.ACK)) {
                    shut();
                }
            } else if (s.has(Segment.SYN)) {
                receiving.startAfter(s.seq);
                sending.window = s.window;
                if (s.has(Segment.ACK)) {
                    sending.confirm(s.ack);
                    restartTimer();
                    state = OPEN;
                    emitAck();
                } else {
                    state = SYN_GOT;
                    emit(Segment.SYN + Segment.ACK, sending.first);
                }
            }
        }

        /** Whether a segment fits and its flags leave something to take; does all that is to be done if not. */
        private boolean isAdmitted(Segment s) {
            if (!receiving.fits(s)) {
                if (!s.has(Segment.RST)) {
                    emitAck();
                }
                if (state == TIME) {
                    timer = TIME_TICKS;
                }
                return false;
            }
            if (s.has(Segment.RST)) {
                shut();
                return false;
            }
            if (s.has(Segment.SYN)) {
                emit(Segment.RST, sending.nxt);
                shut();
                return false;
            }
            return s.has(Segment.ACK);
        }

        /** SYN GOT becomes OPEN by the right ACK number; false if it is another. */
        private boolean isOpenFor(Segment s) {
            if (state != SYN_GOT) {
                return true;
            }
            if (s.ack != sending.nxt) {
                emit(Segment.RST, s.ack);
                return false;
            }
            state = OPEN;
            return true;
        }

        /** Takes the ACK number and the window; false if nothing else of the segment is to be taken. */
        private boolean takeConfirmation(Segment s) {
            if (sending.confirms(s.ack)) {
                sending.confirm(s.ack);
                restartTimer();
            } else if (sending.isAhead(s.ack)) {
                emitAck();
                return false;
            }
            sending.window = s.window;
            if (sending.isAllConfirmed()) {
                allIsConfirmed();
            }
            return state != CLOSED;
        }

        private void restartTimer() {
            tries = 0;
            rto = FIRST_RTO;
            timer = sending.isAllConfirmed() ? OFF : rto;
        }

        /** In FIN 1, BOTH and LAST the FIN was sent, so it is confirmed too. */
        private void allIsConfirmed() {
            if (state == FIN_1) {
                state = FIN_2;
            } else if (state == BOTH) {
                startTime();
            } else if (state == LAST) {
                shut();
            }
        }

        private void startTime() {
            state = TIME;
            timer = TIME_TICKS;
        }

        private void takeContents(Segment s) {
            if (isReceivingState()) {
                receiving.keep(s);
                if (receiving.advance()) {
                    otherIsAtEnd();
                }
            } else if (state == TIME && s.length() > 0) {
                timer = TIME_TICKS;
            }
            if (s.length() > 0) {
                emitAck();
            }
        }

        private void otherIsAtEnd() {
            if (state == OPEN) {
                state = CLOSE_WAIT;
            } else if (state == FIN_1) {
                state = BOTH;
            } else {
                startTime();
            }
        }

        private void emitAck() {
            emitWhole(Segment.ACK, sending.nxt, receiving.rcv, 0, 0);
        }

        private void emit(int flags, int seq) {
            emitWhole(flags, seq, receiving.rcv, 0, 0);
        }

        private void emitWhole(int flags, int seq, int ack, int from, int dataSize) {
            int at = Host.MESSAGE_AT;
            int size = Segment.HEAD_SIZE + dataSize;
            row[0] = Segment.PROTOCOL;
            row[at] = number;
            row[at + 1] = flags;
            Numbers.putPair(row, at + 2, seq);
            Numbers.putPair(row, at + 4, ack);
            row[at + 6] = receiving.room();
            row[at + 7] = 0;
            Numbers.putPair(row, at + Segment.CHECK_AT, 0);
            sending.copyTo(row, at + Segment.HEAD_SIZE, from, dataSize);
            int start = Segment.startOfCheck(Link.addressOf(hostNumber), Link.addressOf(1 - hostNumber), size);
            Numbers.putPair(row, at + Segment.CHECK_AT, Numbers.check(start, row, at, size));
            outbox.add(row, at + size);
        }
    }

    /** One host: takes frames up to echoes and sockets, and sends what these leave in the outbox. */
    static final class Host {
        /** A row of the outbox is the protocol, then the message. */
        static final int MESSAGE_AT = 1;
        static final int OUTBOX_SIZE = MESSAGE_AT + Pieces.MESSAGE_SIZE;
        // A call leaves an ACK, two segments of data and a FIN at most.
        private static final int MOST_IN_OUTBOX = 8;
        private static final int ECHO_PROTOCOL = 1;
        private static final int ECHO_HEAD_SIZE = 5;
        private static final int ECHO_QUESTION = 8;
        private static final int ECHO_ANSWER = 0;

        private final int number;
        private final Link link;
        private final Pieces pieces;
        private final Segment segment;
        private final Endpoint one;
        private final Endpoint two;
        private final Rows outbox;
        private final int[] message;
        private final int[] frame;
        private final int[] packet;
        private final int[] leaving;
        private int ident;
        private int pongs;
        private int token;

        Host(int number, Rows way) {
            int[] arrived = new int[Pieces.MESSAGE_SIZE];
            Rows leavingRows = new Rows(MOST_IN_OUTBOX, OUTBOX_SIZE);
            this.number = number;
            link = new Link(number, way);
            pieces = new Pieces(arrived);
            segment = new Segment(arrived);
            one = new Endpoint(number, 1, leavingRows);
            two = new Endpoint(number, 2, leavingRows);
            outbox = leavingRows;
            message = arrived;
            frame = new int[Link.FRAME_SIZE];
            packet = new int[Link.PACKET_SIZE];
            leaving = new int[OUTBOX_SIZE];
            token = NONE;
        }

        Endpoint endpointAt(int p) {
            return p == 1 ? one : p == 2 ? two : null;
        }

        boolean askEcho(int newToken, int n) {
            if (newToken < 0 || newToken > 255 || n < 0 || n > Pieces.MESSAGE_SIZE - ECHO_HEAD_SIZE) {
                return false;
            }
            leaving[MESSAGE_AT] = ECHO_QUESTION;
            leaving[MESSAGE_AT + 1] = 0;
            leaving[MESSAGE_AT + 4] = newToken;
            for (int i = 0; i < n; i++) {
                leaving[MESSAGE_AT + ECHO_HEAD_SIZE + i] = (newToken + i) & 255;
            }
            leaveEcho(ECHO_HEAD_SIZE + n);
            return true;
        }

        /** The first frame on the way arrives; true if there is a whole message now. */
        boolean takeFrame(Rows way) {
            int size = way.takeFirst(frame, 0);
            if (!link.isForMe(frame[0])) {
                return false;
            }
            if (frame[Link.TYPE_AT] == Link.ASK_TYPE) {
                link.takeAsk(frame, size);
            }
            return frame[Link.TYPE_AT] == Link.PACKET_TYPE && takePacket(size - Link.HEAD_SIZE);
        }

        void takeMessage(int clock) {
            if (pieces.protocol == ECHO_PROTOCOL) {
                takeEcho(pieces.size);
            } else if (pieces.protocol == Segment.PROTOCOL
                    && segment.isRight(pieces.size, Link.addressOf(1 - number), Link.addressOf(number))) {
                Endpoint endpoint = endpointAt(segment.number);
                if (endpoint != null) {
                    endpoint.takeSegment(segment, clock);
                }
            }
        }

        /** Sends what the outbox holds; true always, so that a call that was not refused can end with it. */
        boolean sendOut() {
            for (int left = outbox.count(); left > 0; left--) {
                int size = outbox.takeFirst(leaving, 0) - MESSAGE_AT;
                int firstSize = Math.min(size, Pieces.DATA_SIZE);
                int restSize = size - firstSize;
                sendPacket(0, firstSize, restSize > 0);
                if (restSize > 0) {
                    sendPacket(firstSize, restSize, false);
                }
                ident = (ident + 1) & 255;
            }
            return true;
        }

        void passTick() {
            link.passTick();
            pieces.passTick();
            one.passTick();
            two.passTick();
        }

        int about(int what) {
            switch (what) {
                case 0: return link.knownFor;
                case 1: return link.line.count();
                case 2: return pongs;
                case 3: return token;
                case 4: return pieces.slotsInUse();
                case 5: return ident;
                case 6: return link.askTimer;
                case 7: return link.station;
                default: return NONE;
            }
        }

        private boolean takePacket(int size) {
            if (size <= Pieces.HEAD_SIZE) {
                return false;
            }
            System.arraycopy(frame, Link.HEAD_SIZE, packet, 0, size);
            return packet[0] == size && Numbers.check(0, packet, 0, Pieces.HEAD_SIZE) == 0
                    && packet[8] == Link.addressOf(1 - number) && packet[9] == Link.addressOf(number)
                    && pieces.takePacket(packet, size);
        }

        private void takeEcho(int size) {
            if (size < ECHO_HEAD_SIZE || message[1] != 0 || Numbers.check(0, message, 0, size) != 0) {
                return;
            }
            if (message[0] == ECHO_QUESTION) {
                System.arraycopy(message, 0, leaving, MESSAGE_AT, size);
                leaving[MESSAGE_AT] = ECHO_ANSWER;
                leaveEcho(size);
            } else if (message[0] == ECHO_ANSWER) {
                pongs++;
                token = message[4];
            }
        }

        /** Gives the echo in the row leaving its checksum and puts it into the outbox. */
        private void leaveEcho(int size) {
            leaving[0] = ECHO_PROTOCOL;
            Numbers.putPair(leaving, MESSAGE_AT + 2, 0);
            Numbers.putPair(leaving, MESSAGE_AT + 2, Numbers.check(0, leaving, MESSAGE_AT, size));
            outbox.add(leaving, MESSAGE_AT + size);
        }

        private void sendPacket(int offset, int size, boolean more) {
            packet[0] = Pieces.HEAD_SIZE + size;
            packet[1] = ident;
            packet[2] = offset / 4 + (more ? Pieces.MORE : 0);
            packet[3] = 64;
            packet[4] = leaving[0];
            packet[5] = 0;
            Numbers.putPair(packet, 6, 0);
            packet[8] = Link.addressOf(number);
            packet[9] = Link.addressOf(1 - number);
            Numbers.putPair(packet, 6, Numbers.check(0, packet, 0, Pieces.HEAD_SIZE));
            System.arraycopy(leaving, MESSAGE_AT + offset, packet, Pieces.HEAD_SIZE, size);
            link.sendPacket(packet, Pieces.HEAD_SIZE + size);
        }
    }
}
