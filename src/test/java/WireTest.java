/** Promises 9, 10, 11, 13 and 14: carry, disturb, alter, flying, octet. */
public final class WireTest {
    private static final Due due = new Due();

    public static void main(String[] args) {
        carries();
        loses();
        putsLast();
        doubles();
        sixteenAtMost();
        refusedDisturbs();
        alters();
        refusedAlters();
        octets();
        due.end();
    }

    /** Pings with the tokens 1 to count are on the way to host 1. */
    private static Lab withPings(int count) {
        Lab lab = new Lab(due).meet();
        for (int i = 1; i <= count; i++) {
            lab.x.ping(0, i, 0);
        }
        return lab;
    }

    private static String tokens(int... all) {
        StringBuilder text = new StringBuilder();
        for (int token : all) {
            text.append(text.length() == 0 ? "" : "; ").append("echo 8 token ").append(token).append(" size 5");
        }
        return text.toString();
    }

    private static void carries() {
        Lab lab = withPings(2);
        due.is("carry", lab.x.carry(1), 8);
        due.is("flying", lab.x.flying(1), 1);
        due.is("its answer", lab.x.flying(0), 1);
        due.is("host -1", lab.x.carry(-1), -1);
        due.is("host 2", lab.x.carry(2), -1);
        due.is("flying", lab.x.flying(1), 1);
        due.is("carry", lab.x.carry(1), 8);
        due.is("carry, none there", lab.x.carry(1), -1);
        due.is("flying to -1", lab.x.flying(-1), -1);
        due.is("flying to 2", lab.x.flying(2), -1);
        lab.x.carry(0);
        lab.hostIs(0, 3, 1);
        lab.x.alter(0, 2, 8 ^ 200);
        due.is("any type is told", lab.x.carry(0), 200);
        lab.hostIs(0, 3, 1);
        due.is("flying", lab.x.flying(0), 0);
    }

    private static void loses() {
        Lab lab = withPings(3);
        due.yes("disturb 0", lab.x.disturb(1, 0));
        due.is("flying", lab.x.flying(1), 2);
        lab.went(1, tokens(2, 3));
    }

    private static void putsLast() {
        Lab lab = withPings(3);
        due.yes("disturb 1", lab.x.disturb(1, 1));
        lab.went(1, tokens(2, 3, 1));
        lab = withPings(1);
        due.yes("disturb 1 with one frame", lab.x.disturb(1, 1));
        lab.went(1, tokens(1));
        lab = withPings(16);
        due.yes("disturb 1 with 16", lab.x.disturb(1, 1));
        due.is("flying", lab.x.flying(1), 16);
        lab.went(1, tokens(2, 3, 4, 5, 6, 7, 8, 9, 10, 11, 12, 13, 14, 15, 16, 1));
    }

    private static void doubles() {
        Lab lab = withPings(2);
        due.yes("disturb 2", lab.x.disturb(1, 2));
        due.is("flying", lab.x.flying(1), 3);
        // The copy is a frame of its own.
        lab.x.alter(1, 17, 1 ^ 9);
        due.is("the copy stays", lab.x.octet(1, 2, 17), 1);
        due.is("the first is altered", lab.x.octet(1, 0, 17), 9);
    }

    private static void sixteenAtMost() {
        Lab lab = withPings(15);
        due.yes("a 16th by copy", lab.x.disturb(1, 2));
        due.no("a 17th by copy", lab.x.disturb(1, 2));
        due.is("flying", lab.x.flying(1), 16);
        due.yes("ping is not refused", lab.x.ping(0, 99, 0));
        lab.hostIs(0, 5, 17);
        lab.went(1, tokens(1, 2, 3, 4, 5, 6, 7, 8, 9, 10, 11, 12, 13, 14, 15, 1));
        // Of two packets the second is lost.
        lab = withPings(15);
        lab.x.ping(0, 1, 30);
        due.is("flying", lab.x.flying(1), 16);
        due.is("the first piece", lab.x.octet(1, 15, 5), 128);
        due.is("the other way is free", lab.x.flying(0), 0);
    }

    private static void refusedDisturbs() {
        Lab lab = withPings(2);
        due.no("host -1", lab.x.disturb(-1, 0));
        due.no("host 2", lab.x.disturb(2, 0));
        due.no("how -1", lab.x.disturb(1, -1));
        due.no("how 3", lab.x.disturb(1, 3));
        for (int how = 0; how < 3; how++) {
            due.no("no frame", lab.x.disturb(0, how));
        }
        lab.went(1, tokens(1, 2));
    }

    private static void alters() {
        Lab lab = withPings(2);
        due.yes("byte 0", lab.x.alter(1, 0, 255));
        due.is("byte 0", lab.x.octet(1, 0, 0), 17 ^ 255);
        due.yes("the last byte", lab.x.alter(1, 17, 1));
        due.is("the last byte", lab.x.octet(1, 0, 17), 0);
        due.is("the second frame stays", lab.x.octet(1, 1, 0), 17);
        due.yes("back", lab.x.alter(1, 0, 255));
        due.yes("back", lab.x.alter(1, 17, 1));
        lab.went(1, tokens(1, 2));
    }

    private static void refusedAlters() {
        Lab lab = withPings(2);
        due.no("host -1", lab.x.alter(-1, 0, 1));
        due.no("host 2", lab.x.alter(2, 0, 1));
        due.no("no frame", lab.x.alter(0, 0, 1));
        due.no("byte -1", lab.x.alter(1, -1, 1));
        due.no("byte 18 of 18", lab.x.alter(1, 18, 1));
        due.no("mask 0", lab.x.alter(1, 0, 0));
        due.no("mask -1", lab.x.alter(1, 0, -1));
        due.no("mask 256", lab.x.alter(1, 0, 256));
        lab.went(1, tokens(1, 2));
    }

    private static void octets() {
        Lab lab = withPings(2);
        due.is("size", lab.x.octet(1, 0, -1), 18);
        due.is("frame 1, byte 17", lab.x.octet(1, 1, 17), 2);
        due.is("byte 18", lab.x.octet(1, 0, 18), -1);
        due.is("byte -2", lab.x.octet(1, 0, -2), -1);
        due.is("frame 2", lab.x.octet(1, 2, 0), -1);
        due.is("size of frame 2", lab.x.octet(1, 2, -1), -1);
        due.is("frame -1", lab.x.octet(1, -1, 0), -1);
        due.is("size of frame -1", lab.x.octet(1, -1, -1), -1);
        due.is("host -1", lab.x.octet(-1, 0, 0), -1);
        due.is("host 2", lab.x.octet(2, 0, 0), -1);
        due.is("nothing to host 0", lab.x.octet(0, 0, 0), -1);
        due.is("far off", lab.x.octet(1, Integer.MAX_VALUE, Integer.MAX_VALUE), -1);
        due.is("far off", lab.x.octet(1, Integer.MIN_VALUE, Integer.MIN_VALUE), -1);
    }
}
