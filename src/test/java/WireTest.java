/** Promises 9, 10, 11, 13 and 14: carry, disturb, alter, flying, octet. */
public final class WireTest {
    private static final int[] NO_HOSTS = {-1, 2, Integer.MIN_VALUE, Integer.MAX_VALUE};
    private static final Due due = new Due();

    public static void main(String[] args) {
        carryTakesTheFirst();
        carryAnswersByteTwo();
        carryIsRefused();
        loses();
        putsLast();
        putsLastOfOneAndOfSixteen();
        doubles();
        doublesUpToSixteen();
        disturbsTheOtherWayToo();
        disturbIsRefused();
        alterFirstAndLastByte();
        alterMasks();
        alterByteThatIsNone();
        alterChangesTheFirstAlone();
        flyingFromNoneToSixteen();
        octetSizes();
        octetThatIsNone();
        sizesOfFramesThatMove();
        due.end();
    }

    /** Pings with the tokens 1 to count are on the way to host 1. */
    private static Lab withPings(int count) {
        Lab lab = new Lab(due).meet();
        for (int i = 1; i <= count; i++) {
            lab.x.ping(0, i, 0);
        }
        return lab;
    }

    private static String tokens(int... all) {
        StringBuilder text = new StringBuilder();
        for (int token : all) {
            text.append(text.length() == 0 ? "" : "; ").append("echo 8 token ").append(token).append(" size 5");
        }
        return text.toString();
    }

    /** "The first frame on the way to host h arrives." */
    private static void carryTakesTheFirst() {
        Lab lab = withPings(2);
        due.is("carry", lab.x.carry(1), 8);
        lab.flying(1, 1);
        lab.went(0, "echo 0 token 1 size 5");
        due.is("carry", lab.x.carry(1), 8);
        lab.flying(1, 0);
        lab.went(0, "echo 0 token 2 size 5");
    }

    /** "Answers its type (byte 2).": as it is now, whatever becomes of the frame */
    private static void carryAnswersByteTwo() {
        Lab lab = new Lab(due);
        lab.x.ping(0, 1, 0);
        due.is("an ASK", lab.x.carry(1), 6);
        due.is("an ASK", lab.x.carry(0), 6);
        for (int type : new int[] {0, 6, 7, 8, 128, 255}) {
            lab = withPings(1);
            if (type != 8) {
                lab.x.alter(1, 2, 8 ^ type);
            }
            due.is("type " + type, lab.x.carry(1), type);
            lab.flying(1, 0);
            lab.flying(0, type == 8 ? 1 : 0);
        }
        // One to another station has its type too.
        lab = withPings(1);
        lab.x.alter(1, 0, 3);
        due.is("to another station", lab.x.carry(1), 8);
        lab.flying(0, 0);
    }

    /** "Refused (NONE): there is no such host, or no frame." */
    private static void carryIsRefused() {
        Lab lab = withPings(1);
        String before = lab.all();
        for (int h : NO_HOSTS) {
            due.is("host " + h, lab.x.carry(h), -1);
        }
        due.is("no frame", lab.x.carry(0), -1);
        due.same("all", lab.all(), before);
        lab.x.carry(1);
        due.is("no frame any more", lab.x.carry(1), -1);
        due.is("one on the other way", lab.x.flying(0), 1);
    }

    /** "is lost (how 0)" */
    private static void loses() {
        Lab lab = withPings(3);
        due.yes("disturb 0", lab.x.disturb(1, 0));
        lab.flying(1, 2);
        lab.went(1, tokens(2, 3));
        lab.flying(0, 0);
        lab = withPings(1);
        due.yes("the only one", lab.x.disturb(1, 0));
        lab.flying(1, 0);
        lab = withPings(16);
        due.yes("one of 16", lab.x.disturb(1, 0));
        lab.flying(1, 15);
        due.is("the first now", lab.x.octet(1, 0, 17), 2);
        due.is("the last now", lab.x.octet(1, 14, 17), 16);
    }

    /** "goes behind all others (1)" */
    private static void putsLast() {
        Lab lab = withPings(3);
        due.yes("disturb 1", lab.x.disturb(1, 1));
        lab.went(1, tokens(2, 3, 1));
    }

    private static void putsLastOfOneAndOfSixteen() {
        Lab lab = withPings(1);
        due.yes("disturb 1 with one frame", lab.x.disturb(1, 1));
        lab.went(1, tokens(1));
        lab = withPings(16);
        due.yes("disturb 1 with 16", lab.x.disturb(1, 1));
        lab.flying(1, 16);
        lab.went(1, tokens(2, 3, 4, 5, 6, 7, 8, 9, 10, 11, 12, 13, 14, 15, 16, 1));
    }

    /** "or gets a copy behind all others (2)": a frame of its own */
    private static void doubles() {
        Lab lab = withPings(2);
        due.yes("disturb 2", lab.x.disturb(1, 2));
        lab.flying(1, 3);
        lab.x.alter(1, 17, 1 ^ 9);
        due.is("the copy stays", lab.x.octet(1, 2, 17), 1);
        due.is("the first is altered", lab.x.octet(1, 0, 17), 9);
        lab.x.disturb(1, 0);
        lab.went(1, tokens(2, 1));
        lab = withPings(1);
        due.yes("disturb 2 with one frame", lab.x.disturb(1, 2));
        lab.went(1, tokens(1, 1));
    }

    /** "or (2) there are 16" */
    private static void doublesUpToSixteen() {
        Lab lab = withPings(15);
        due.yes("a 16th by copy", lab.x.disturb(1, 2));
        lab.flying(1, 16);
        due.no("a 17th by copy", lab.x.disturb(1, 2));
        lab.flying(1, 16);
        lab.went(1, tokens(1, 2, 3, 4, 5, 6, 7, 8, 9, 10, 11, 12, 13, 14, 15, 1));
    }

    private static void disturbsTheOtherWayToo() {
        Lab lab = new Lab(due).meet();
        for (int i = 1; i <= 3; i++) {
            lab.x.ping(1, i, 0);
            lab.x.ping(0, 9, 0);
        }
        due.yes("1", lab.x.disturb(0, 1));
        due.yes("2", lab.x.disturb(0, 2));
        due.yes("0", lab.x.disturb(0, 0));
        lab.went(0, tokens(3, 1, 2));
        lab.went(1, tokens(9, 9, 9));
    }

    /** "Refused: there is no such host or frame, how is not 0 .. 2" */
    private static void disturbIsRefused() {
        Lab lab = withPings(2);
        String before = lab.all();
        for (int how = 0; how <= 2; how++) {
            for (int h : NO_HOSTS) {
                due.no("host " + h, lab.x.disturb(h, how));
            }
            due.no("no frame", lab.x.disturb(0, how));
        }
        for (int how : new int[] {-1, 3, Integer.MIN_VALUE, Integer.MAX_VALUE}) {
            due.no("how " + how, lab.x.disturb(1, how));
        }
        due.same("all", lab.all(), before);
    }

    /** "Byte k of the first frame on the way to host h becomes itself ^ mask" */
    private static void alterFirstAndLastByte() {
        Lab lab = withPings(2);
        due.yes("byte 0", lab.x.alter(1, 0, 255));
        due.is("byte 0", lab.x.octet(1, 0, 0), 17 ^ 255);
        due.yes("the last byte", lab.x.alter(1, 17, 3));
        due.is("the last byte", lab.x.octet(1, 0, 17), 1 ^ 3);
        due.no("one further", lab.x.alter(1, 18, 3));
        due.yes("back", lab.x.alter(1, 0, 255));
        due.yes("back", lab.x.alter(1, 17, 3));
        lab.went(1, tokens(1, 2));
        // The shortest frame has 7 bytes, the longest 37.
        lab = new Lab(due);
        lab.x.ping(0, 1, 0);
        due.yes("byte 6 of 7", lab.x.alter(1, 6, 1));
        due.no("byte 7 of 7", lab.x.alter(1, 7, 1));
        lab = new Lab(due).meet();
        lab.x.ping(0, 1, 43);
        due.yes("byte 36 of 37", lab.x.alter(1, 36, 1));
        due.no("byte 37 of 37", lab.x.alter(1, 37, 1));
    }

    /** "or mask is not 1 .. 255" */
    private static void alterMasks() {
        Lab lab = withPings(1);
        String before = lab.all();
        for (int mask : new int[] {0, 256, -1, 257, Integer.MIN_VALUE, Integer.MAX_VALUE}) {
            due.no("mask " + mask, lab.x.alter(1, 0, mask));
        }
        due.same("all", lab.all(), before);
        due.yes("mask 1", lab.x.alter(1, 0, 1));
        due.is("17 ^ 1", lab.x.octet(1, 0, 0), 16);
        due.yes("mask 255", lab.x.alter(1, 0, 255));
        due.is("16 ^ 255", lab.x.octet(1, 0, 0), 239);
    }

    /** "Refused: there is no such host, frame or byte" */
    private static void alterByteThatIsNone() {
        Lab lab = withPings(1);
        String before = lab.all();
        for (int h : NO_HOSTS) {
            due.no("host " + h, lab.x.alter(h, 0, 1));
        }
        due.no("no frame", lab.x.alter(0, 0, 1));
        for (int k : new int[] {-1, 18, 37, Integer.MIN_VALUE, Integer.MAX_VALUE}) {
            due.no("byte " + k, lab.x.alter(1, k, 1));
        }
        due.same("all", lab.all(), before);
    }

    private static void alterChangesTheFirstAlone() {
        Lab lab = withPings(3);
        lab.x.alter(1, 17, 1 ^ 50);
        due.is("the second", lab.x.octet(1, 1, 17), 2);
        due.is("the third", lab.x.octet(1, 2, 17), 3);
        lab.x.disturb(1, 1);
        lab.x.alter(1, 17, 2 ^ 60);
        due.is("the one that was first", lab.x.octet(1, 2, 17), 50);
        due.is("the first", lab.x.octet(1, 0, 17), 60);
    }

    /** "How many frames are on the way to host h; NONE when there is no such host." */
    private static void flyingFromNoneToSixteen() {
        Lab lab = new Lab(due).meet();
        for (int i = 0; i < 18; i++) {
            lab.flying(0, Math.min(i, 16));
            lab.flying(1, 0);
            lab.x.ping(1, 0, 0);
        }
        for (int h : NO_HOSTS) {
            lab.flying(h, -1);
        }
        for (int left = 15; left >= 0; left--) {
            lab.x.disturb(0, 0);
            lab.flying(0, left);
        }
    }

    /** "for i NONE how many bytes it has" */
    private static void octetSizes() {
        Lab lab = new Lab(due);
        lab.x.ping(0, 1, 0);
        due.is("an ASK", lab.x.octet(1, 0, -1), 7);
        due.is("its byte 6", lab.x.octet(1, 0, 6), 2);
        due.is("its byte 7", lab.x.octet(1, 0, 7), -1);
        lab = new Lab(due).meet();
        lab.x.ping(0, 200, 43);
        lab.x.ping(0, 200, 20);
        lab.x.ping(0, 200, 0);
        int[] sizes = {37, 37, 37, 14, 18};
        for (int k = 0; k < sizes.length; k++) {
            due.is("size of frame " + k, lab.x.octet(1, k, -1), sizes[k]);
            due.yes("its last byte", lab.x.octet(1, k, sizes[k] - 1) >= 0);
            due.is("and no more", lab.x.octet(1, k, sizes[k]), -1);
        }
        due.is("the last byte of the longest", lab.x.octet(1, 1, 36), 242);
    }

    /** "NONE when there is no such host, frame or byte." */
    private static void octetThatIsNone() {
        Lab lab = withPings(2);
        for (int h : NO_HOSTS) {
            due.is("host " + h, lab.x.octet(h, 0, 0), -1);
            due.is("host " + h, lab.x.octet(h, 0, -1), -1);
        }
        for (int k : new int[] {-1, 2, 16, Integer.MIN_VALUE, Integer.MAX_VALUE}) {
            due.is("frame " + k, lab.x.octet(1, k, 0), -1);
            due.is("size of frame " + k, lab.x.octet(1, k, -1), -1);
        }
        for (int i : new int[] {-2, 18, 37, Integer.MIN_VALUE, Integer.MAX_VALUE}) {
            due.is("byte " + i, lab.x.octet(1, 0, i), -1);
            due.is("byte " + i, lab.x.octet(1, 1, i), -1);
        }
        due.is("nothing to host 0", lab.x.octet(0, 0, 0), -1);
        due.is("nothing to host 0", lab.x.octet(0, 0, -1), -1);
        due.is("frame 1, byte 17", lab.x.octet(1, 1, 17), 2);
        lab.drop(1);
        due.is("nothing any more", lab.x.octet(1, 0, 0), -1);
    }

    private static void sizesOfFramesThatMove() {
        Lab lab = new Lab(due).meet();
        lab.x.ping(0, 1, 20);
        lab.x.ping(0, 2, 3);
        int[] sizes = {37, 14, 21};
        for (int turn = 0; turn < 3; turn++) {
            for (int k = 0; k < 3; k++) {
                due.is("size", lab.x.octet(1, k, -1), sizes[(k + turn) % 3]);
            }
            lab.x.disturb(1, 1);
        }
        lab.x.disturb(1, 0);
        lab.x.disturb(1, 2);
        due.is("the copy's size", lab.x.octet(1, 2, -1), 14);
        due.no("its byte 14", lab.x.alter(1, 14, 1));
    }
}
