/** Promises 4 and 5: send and read, with TO PUSH. */
public final class SendReadTest {
    private static final Due due = new Due();

    public static void main(String[] args) {
        oneByte();
        refusedSends();
        refusedByState();
        closeWaitSends();
        windowStops();
        windowOfFortyEight();
        sixtyFourOut();
        atMostThirtyTwoInOneSegment();
        timerRunsWhenWindowIsShut();
        oneByteAndNoWindow();
        endingRefuses();
        readsInOrder();
        refusedReads();
        readOpensAShutWindow();
        readInCloseWaitIsSilent();
        streamOverLossAndOrder();
        due.end();
    }

    private static void oneByte() {
        Lab lab = new Lab(due).open();
        due.yes("send 0", lab.x.send(0, 1, 0));
        lab.is(0, Lab.OUT, 1);
        lab.is(0, Lab.UNA, 101);
        lab.is(0, Lab.NXT, 102);
        lab.is(0, Lab.TIMER, 4);
        lab.x.tick(1);
        due.yes("send 255", lab.x.send(0, 1, 255));
        lab.is(0, Lab.TIMER, 3);
        lab.went(1, "A 101 1101 24 :0; A 102 1101 24 :255");
        lab.segment(0, Lab.ACK, 1101, 102, 24);
        lab.is(0, Lab.OUT, 1);
        lab.is(0, Lab.UNA, 102);
        lab.is(0, Lab.TIMER, 4);
        lab.segment(0, Lab.ACK, 1101, 103, 24);
        lab.is(0, Lab.OUT, 0);
        lab.is(0, Lab.TIMER, 0);
    }

    private static void refusedSends() {
        Lab lab = new Lab(due).open();
        due.no("host -1", lab.x.send(-1, 1, 1));
        due.no("host 2", lab.x.send(2, 1, 1));
        due.no("socket 0", lab.x.send(0, 0, 1));
        due.no("socket 3", lab.x.send(0, 3, 1));
        due.no("byte -1", lab.x.send(0, 1, -1));
        due.no("byte 256", lab.x.send(0, 1, 256));
        due.no("socket 2 is CLOSED", lab.x.send(0, 2, 1));
        lab.is(0, Lab.OUT, 0);
        lab.went(1, "");
    }

    private static void refusedByState() {
        Lab lab = new Lab(due).meet();
        lab.x.listen(1, 1);
        due.no("LISTEN", lab.x.send(1, 1, 1));
        lab.x.connect(0, 1);
        due.no("SYN SENT", lab.x.send(0, 1, 1));
        lab.x.carry(1);
        due.no("SYN GOT", lab.x.send(1, 1, 1));
        lab.carryAll();
        lab.x.close(0, 1);
        due.no("FIN 1", lab.x.send(0, 1, 1));
        lab.carryAll();
        lab.state(0, Lab.FIN_2);
        due.no("FIN 2", lab.x.send(0, 1, 1));
        lab.x.close(1, 1);
        due.no("LAST", lab.x.send(1, 1, 1));
        lab.carryAll();
        lab.state(0, Lab.TIME);
        due.no("TIME", lab.x.send(0, 1, 1));
    }

    private static void closeWaitSends() {
        Lab lab = new Lab(due).halfClosed();
        due.yes("CLOSE WAIT", lab.x.send(0, 1, 9));
        lab.x.carry(1);
        due.is("FIN 2 gets it", lab.x.read(1, 1), 9);
    }

    private static void windowStops() {
        Lab lab = new Lab(due).open();
        lab.segment(0, Lab.ACK, 1101, 101, 3);
        for (int i = 0; i < 5; i++) {
            due.yes("send " + i, lab.x.send(0, 1, i));
        }
        lab.is(0, Lab.OUT, 5);
        lab.is(0, Lab.NXT, 104);
        lab.went(1, "A 101 1101 24 :0; A 102 1101 24 :1; A 103 1101 24 :2");
        lab.segment(0, Lab.ACK, 1101, 102, 3);
        lab.went(1, "A 104 1101 24 :3");
        lab.segment(0, Lab.ACK, 1101, 102, 9);
        lab.went(1, "A 105 1101 24 :4");
        // An older ACK number changes no number, but its window counts.
        lab.segment(0, Lab.ACK, 1101, 101, 0);
        lab.is(0, Lab.UNA, 102);
        lab.is(0, Lab.WIN, 0);
        lab.x.send(0, 1, 5);
        lab.went(1, "");
    }

    private static void windowOfFortyEight() {
        Lab lab = new Lab(due).open();
        lab.segment(0, Lab.ACK, 1101, 101, 255);
        for (int i = 0; i < 50; i++) {
            lab.x.send(0, 1, i);
            lab.drop(1);
        }
        lab.is(0, Lab.OUT, 50);
        lab.is(0, Lab.NXT, 101 + 48);
        lab.segment(0, Lab.ACK, 1101, 102, 255);
        lab.went(1, "A 149 1101 24 :48");
    }

    private static void sixtyFourOut() {
        Lab lab = new Lab(due).open();
        for (int i = 0; i < 64; i++) {
            due.yes("send " + i, lab.x.send(0, 1, i));
        }
        due.no("a 65th", lab.x.send(0, 1, 64));
        lab.is(0, Lab.OUT, 64);
        lab.is(0, Lab.NXT, 125);
        due.is("16 frames at most", lab.x.flying(1), 16);
        lab.drop(1);
        lab.segment(0, Lab.ACK, 1101, 102, 23);
        due.yes("one more", lab.x.send(0, 1, 64));
        due.no("again 64", lab.x.send(0, 1, 65));
    }

    private static void atMostThirtyTwoInOneSegment() {
        Lab lab = new Lab(due).open();
        lab.segment(0, Lab.ACK, 1101, 101, 0);
        for (int i = 0; i < 64; i++) {
            lab.x.send(0, 1, i);
        }
        lab.went(1, "");
        lab.segment(0, Lab.ACK, 1101, 101, 200);
        lab.is(0, Lab.NXT, 149);
        int ident = lab.x.octet(1, 0, 4);
        // 32 bytes make a message of 42, 16 one of 26: two packets each.
        lab.went(1, "piece 128 of " + ident + " size 24; piece 6 of " + ident + " size 18; piece 128 of " + (ident + 1)
                + " size 24; piece 6 of " + (ident + 1) + " size 2");
    }

    private static void timerRunsWhenWindowIsShut() {
        Lab lab = new Lab(due).open();
        lab.segment(0, Lab.ACK, 1101, 101, 0);
        lab.is(0, Lab.TIMER, 0);
        lab.x.send(0, 1, 7);
        lab.x.send(0, 1, 8);
        lab.is(0, Lab.NXT, 101);
        lab.is(0, Lab.TIMER, 4);
        lab.x.tick(4);
        lab.went(1, "A 101 1101 24 :7");
        lab.is(0, Lab.NXT, 102);
        lab.is(0, Lab.TIMER, 8);
        lab.x.tick(8);
        lab.went(1, "A 101 1101 24 :7");
        lab.is(0, Lab.NXT, 102);
        lab.is(0, Lab.RTO, 16);
    }

    private static void oneByteAndNoWindow() {
        Lab lab = new Lab(due).open();
        lab.segment(0, Lab.ACK, 1101, 101, 0);
        lab.x.send(0, 1, 7);
        lab.is(0, Lab.TIMER, 4);
        lab.x.tick(4);
        lab.went(1, "A 101 1101 24 :7");
        lab.is(0, Lab.NXT, 102);
    }

    private static void endingRefuses() {
        Lab lab = new Lab(due).open();
        lab.segment(0, Lab.ACK, 1101, 101, 0);
        lab.x.send(0, 1, 7);
        due.yes("close", lab.x.close(0, 1));
        lab.state(0, Lab.OPEN);
        due.no("send while ENDING", lab.x.send(0, 1, 8));
        lab.is(0, Lab.OUT, 1);
    }

    private static void readsInOrder() {
        Lab lab = new Lab(due).open();
        lab.segment(1, Lab.ACK, 101, 1101, 24, 5, 6, 7);
        lab.went(0, "A 1101 104 21");
        lab.is(1, Lab.IN, 3);
        due.is("read", lab.x.read(1, 1), 5);
        lab.is(1, Lab.IN, 2);
        due.is("read", lab.x.read(1, 1), 6);
        due.is("read", lab.x.read(1, 1), 7);
        due.is("read at the end", lab.x.read(1, 1), -1);
        lab.went(0, "");
    }

    private static void refusedReads() {
        Lab lab = new Lab(due).open();
        lab.fill(1, 24);
        lab.drop(0);
        due.is("host -1", lab.x.read(-1, 1), -1);
        due.is("host 2", lab.x.read(2, 1), -1);
        due.is("socket 0", lab.x.read(1, 0), -1);
        due.is("socket 3", lab.x.read(1, 3), -1);
        due.is("socket 2", lab.x.read(1, 2), -1);
        lab.is(1, Lab.IN, 24);
        lab.went(0, "");
    }

    private static void readOpensAShutWindow() {
        Lab lab = new Lab(due).open();
        lab.fill(1, 24);
        lab.went(0, "A 1101 113 12; A 1101 125 0");
        due.is("read", lab.x.read(1, 1), 10);
        lab.went(0, "A 1101 125 1");
        due.is("read", lab.x.read(1, 1), 11);
        lab.went(0, "");
        lab.fill(0, 24);
        lab.x.close(0, 1);
        lab.drop(1);
        lab.state(0, Lab.FIN_1);
        lab.x.read(0, 1);
        lab.went(1, "A 102 1125 1");
    }

    private static void readInCloseWaitIsSilent() {
        Lab lab = new Lab(due).open();
        lab.fill(1, 12);
        lab.segment(1, Lab.ACK + Lab.FIN, 113, 1101, 24, Lab.bytes(0, 12));
        lab.state(1, Lab.CLOSE_WAIT);
        lab.is(1, Lab.IN, 24);
        lab.drop(0);
        due.is("read", lab.x.read(1, 1), 10);
        lab.went(0, "");
    }

    private static void streamOverLossAndOrder() {
        Lab lab = new Lab(due).open();
        int next = 0;
        int got = 0;
        for (int round = 0; round < 400 && got < 200; round++) {
            if (next < 200 && lab.x.send(0, 1, next)) {
                next++;
            }
            if (lab.x.flying(1) > 0) {
                lab.x.disturb(1, round % 5 == 0 ? 0 : round % 3 == 0 ? 1 : 2);
            }
            lab.x.carry(1);
            lab.x.carry(0);
            int v = lab.x.read(1, 1);
            if (v >= 0) {
                due.is("byte " + got, v, got);
                got++;
            }
            lab.x.tick(1);
        }
        due.yes("many bytes came", got > 100);
    }
}
