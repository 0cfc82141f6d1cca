import java.util.Arrays;

/** Frames on the way, read and rewritten through the face alone. */
final class Frames {
    private Frames() {
    }

    /** Frame k on the way to host h; empty if there is none. */
    static int[] read(Counted x, int h, int k) {
        int[] frame = new int[Math.max(0, x.octet(h, k, WireHosts.NONE))];
        for (int i = 0; i < frame.length; i++) {
            frame[i] = x.octet(h, k, i);
        }
        return frame;
    }

    static void putPair(int[] row, int at, int number) {
        row[at] = (number >> 8) & 255;
        row[at + 1] = number & 255;
    }

    /** Makes the checksums of a frame right: the segment's or echo's if it is whole in it, then the packet's. */
    static void seal(int[] f) {
        if (f[2] != 8 || f.length < 14) {
            return;
        }
        boolean whole = f[5] == 0;
        int[] message = Arrays.copyOfRange(f, 13, f.length);
        if (whole && f[7] == 6 && message.length >= 10) {
            putPair(message, 8, 0);
            putPair(f, 21, Model.check(Model.join(new int[] {f[11], f[12], 6, message.length}, message)));
        } else if (whole && f[7] == 1 && message.length >= 5) {
            putPair(message, 2, 0);
            putPair(f, 15, Model.check(message));
        }
        putPair(f, 9, 0);
        putPair(f, 9, Model.check(Arrays.copyOfRange(f, 3, 13)));
    }
}
