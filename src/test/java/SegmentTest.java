/** What a segment does when it arrives, state by state (promise 9, and all that carry leads to). */
public final class SegmentTest {
    private static final int A = Lab.ACK;
    private static final Due due = new Due();

    public static void main(String[] args) {
        wrongSegments();
        closed();
        listening();
        synSentRefuses();
        synSentOpens();
        synGot();
        fitting();
        fittingWithoutRoom();
        rstAndSyn();
        withoutAck();
        ackNumbers();
        earlyBytes();
        bytesOverlap();
        bytesBeyondRoom();
        numbersWrap();
        finEarly();
        finIsReplaced();
        finBehindBytes();
        finOnFullRoom();
        finOneAndTwo();
        closeWaitTakesNoData();
        timeState();
        lastState();
        endingOpenToLast();
        pushAfterConfirmation();
        sizesOfSegments();
        pieceSegments();
        due.end();
    }

    private static void wrongSegments() {
        Lab lab = new Lab(due).open();
        int[] right = Lab.segmentFrame(1, 1, A, 101, 1101, 24, 65);
        int[][] changes = {{13, 0}, {13, 3}, {14, 24}, {14, 48}, {14, 80}, {14, 144}};
        for (int[] change : changes) {
            int[] f = right.clone();
            f[change[0]] = change[1];
            Frames.seal(f);
            lab.arrive(1, f);
            lab.is(1, Lab.IN, 0);
        }
        int[] wrongCheck = right.clone();
        wrongCheck[22] ^= 1;
        lab.arrive(1, wrongCheck);
        lab.is(1, Lab.IN, 0);
        // Nine bytes are no segment, even with a right check.
        int[] nine = {1, A, 0, 101, 4, 77, 99, 0, 0};
        Frames.putPair(nine, 4, 1101 + Model.check(Model.join(new int[] {1, 2, 6, 9}, nine)));
        due.is("its check", Model.check(Model.join(new int[] {1, 2, 6, 9}, nine)), 0);
        lab.arrive(1, Lab.packet(1, 0, 0, 6, nine));
        lab.is(1, Lab.WIN, 24);
        lab.went(0, "");
        right[20] = 99;
        Frames.seal(right);
        lab.arrive(1, right);
        lab.is(1, Lab.IN, 1);
        lab.went(0, "A 1101 102 23");
    }

    private static void closed() {
        Lab lab = new Lab(due).meet();
        lab.segment(1, Lab.SYN, 500, 0, 24);
        lab.went(0, "RA 0 501 24");
        lab.segment(1, Lab.SYN + Lab.FIN + A, 65534, 77, 24, 1, 2, 3);
        lab.went(0, "RA 77 3 24");
        lab.segment(1, 0, 7, 8, 24);
        lab.went(0, "RA 8 7 24");
        lab.segment(1, Lab.RST, 7, 8, 24);
        lab.segment(1, Lab.RST + A, 7, 8, 24);
        lab.went(0, "");
        lab.state(1, Lab.CLOSED);
        lab.is(1, Lab.RCV, 0);
    }

    private static void listening() {
        Lab lab = new Lab(due).meet();
        lab.x.listen(1, 1);
        lab.segment(1, Lab.RST + Lab.SYN + A, 7, 8, 24);
        lab.segment(1, Lab.FIN, 7, 8, 24);
        lab.segment(1, 0, 7, 8, 24, 1, 2);
        lab.went(0, "");
        lab.segment(1, A + Lab.SYN, 7, 888, 24);
        lab.went(0, "R 888 0 24");
        lab.state(1, Lab.LISTEN);
        lab.is(1, Lab.TIMER, 0);
        lab.x.tick(6);
        lab.segment(1, Lab.SYN + Lab.FIN, 65535, 8, 17, 1, 2);
        lab.went(0, "SA 1106 0 24");
        lab.state(1, Lab.SYN_GOT);
        lab.is(1, Lab.RCV, 0);
        lab.is(1, Lab.WIN, 17);
        lab.is(1, Lab.UNA, 1106);
        lab.is(1, Lab.NXT, 1107);
        lab.is(1, Lab.TIMER, 4);
        lab.is(1, Lab.IN, 0);
    }

    private static void synSentRefuses() {
        Lab lab = new Lab(due).meet();
        lab.x.connect(0, 1);
        lab.drop(1);
        lab.segment(0, Lab.SYN + A, 500, 100, 24);
        lab.went(1, "R 100 0 24");
        lab.segment(0, A, 500, 102, 24);
        lab.went(1, "R 102 0 24");
        lab.segment(0, Lab.RST + A, 500, 102, 24);
        lab.segment(0, Lab.RST, 500, 101, 24);
        lab.segment(0, Lab.RST + Lab.SYN, 500, 101, 24);
        lab.segment(0, A, 500, 101, 24);
        lab.segment(0, Lab.FIN, 500, 101, 24);
        lab.went(1, "");
        lab.state(0, Lab.SYN_SENT);
        lab.is(0, Lab.RCV, 0);
        lab.segment(0, Lab.RST + A, 500, 101, 24);
        lab.state(0, Lab.CLOSED);
        lab.went(1, "");
    }

    private static void synSentOpens() {
        Lab lab = new Lab(due).meet();
        lab.x.connect(0, 1);
        lab.x.tick(4);
        lab.drop(1);
        lab.is(0, Lab.TRIES, 1);
        lab.segment(0, Lab.SYN + A + Lab.FIN, 500, 101, 99, 1, 2);
        lab.went(1, "A 101 501 24");
        int[] want = {Lab.OPEN, 101, 101, 501, 99, 0, 0, 0, 4, 0, 0};
        for (int what = 0; what < want.length; what++) {
            lab.is(0, what, want[what]);
        }
        lab = new Lab(due).meet();
        lab.x.connect(0, 1);
        lab.x.tick(5);
        lab.drop(1);
        lab.segment(0, Lab.SYN, 500, 9, 99);
        lab.went(1, "SA 100 501 24");
        want = new int[] {Lab.SYN_GOT, 100, 101, 501, 99, 0, 0, 7, 8, 1, 0};
        for (int what = 0; what < want.length; what++) {
            lab.is(0, what, want[what]);
        }
    }

    private static Lab inSynGot() {
        Lab lab = new Lab(due).meet();
        lab.x.listen(1, 1);
        lab.x.connect(0, 1);
        lab.x.carry(1);
        lab.drop(0);
        lab.state(1, Lab.SYN_GOT);
        return lab;
    }

    private static void synGot() {
        Lab lab = inSynGot();
        lab.segment(1, A, 101, 1102, 24);
        lab.went(0, "R 1102 101 24");
        lab.segment(1, A, 101, 1100, 24, 5);
        lab.went(0, "R 1100 101 24");
        lab.state(1, Lab.SYN_GOT);
        lab.segment(1, Lab.SYN, 100, 0, 24);
        lab.went(0, "A 1101 101 24");
        lab.segment(1, 0, 101, 1101, 24);
        lab.went(0, "");
        lab.state(1, Lab.SYN_GOT);
        lab.x.tick(4);
        lab.drop(0);
        // Data and FIN may come with the ACK that opens.
        lab.segment(1, A + Lab.FIN, 101, 1101, 7, 5, 6);
        lab.state(1, Lab.CLOSE_WAIT);
        lab.went(0, "A 1101 104 22");
        lab.is(1, Lab.UNA, 1101);
        lab.is(1, Lab.WIN, 7);
        lab.is(1, Lab.TRIES, 0);
        lab.is(1, Lab.RTO, 4);
        lab.is(1, Lab.TIMER, 0);
        lab = inSynGot();
        lab.segment(1, Lab.RST, 101, 0, 0);
        lab.state(1, Lab.CLOSED);
        lab.went(0, "");
    }

    private static void fitting() {
        Lab lab = new Lab(due).open();
        // No length: SEQ from RCV to RCV + 23.
        lab.segment(1, A, 101, 1101, 1);
        lab.is(1, Lab.WIN, 1);
        lab.segment(1, A, 124, 1101, 2);
        lab.is(1, Lab.WIN, 2);
        lab.went(0, "");
        lab.segment(1, A, 125, 1101, 3);
        lab.segment(1, A, 100, 1101, 3);
        lab.is(1, Lab.WIN, 2);
        lab.went(0, "A 1101 101 24; A 1101 101 24");
        // With length: the first or the last number.
        lab.segment(1, A, 99, 1101, 4, 1, 2);
        lab.is(1, Lab.WIN, 2);
        lab.segment(1, A, 125, 1101, 4, 1, 2);
        lab.is(1, Lab.WIN, 2);
        lab.drop(0);
        lab.segment(1, A, 124, 1101, 5, 1, 2);
        lab.is(1, Lab.WIN, 5);
        lab.segment(1, A, 99, 1101, 6, 1, 2, 3);
        lab.is(1, Lab.WIN, 6);
        lab.is(1, Lab.IN, 1);
        due.is("the byte that is due", lab.x.read(1, 1), 3);
    }

    private static void fittingWithoutRoom() {
        Lab lab = new Lab(due).open();
        lab.fill(1, 24);
        lab.drop(0);
        lab.segment(1, A, 125, 1101, 9);
        lab.is(1, Lab.WIN, 9);
        lab.went(0, "");
        lab.segment(1, A, 125, 1101, 8, 1);
        lab.is(1, Lab.WIN, 9);
        lab.went(0, "A 1101 125 0");
        lab.segment(1, A, 126, 1101, 8);
        lab.is(1, Lab.WIN, 9);
        lab.went(0, "A 1101 125 0");
        lab.segment(1, A + Lab.FIN, 125, 1101, 8);
        lab.state(1, Lab.OPEN);
        lab.went(0, "A 1101 125 0");
    }

    private static void rstAndSyn() {
        Lab lab = new Lab(due).open();
        lab.segment(1, Lab.RST, 125, 0, 0);
        lab.segment(1, Lab.RST, 100, 0, 0);
        lab.went(0, "");
        lab.state(1, Lab.OPEN);
        lab.segment(1, Lab.RST + A, 124, 1, 9, 5);
        lab.state(1, Lab.CLOSED);
        lab.is(1, Lab.WIN, 0);
        lab.went(0, "");

        lab = new Lab(due).open();
        lab.segment(1, Lab.SYN + A, 100, 1101, 24);
        lab.went(0, "A 1101 101 24");
        lab.x.send(1, 1, 1);
        lab.drop(0);
        lab.segment(1, Lab.SYN, 101, 1101, 24);
        lab.went(0, "R 1102 101 24");
        lab.state(1, Lab.CLOSED);
    }

    private static void withoutAck() {
        Lab lab = new Lab(due).open();
        lab.segment(1, 0, 101, 1101, 3, 1, 2);
        lab.segment(1, Lab.FIN, 101, 1101, 3);
        lab.went(0, "");
        lab.state(1, Lab.OPEN);
        lab.is(1, Lab.IN, 0);
        lab.is(1, Lab.WIN, 24);
    }

    private static void ackNumbers() {
        Lab lab = new Lab(due).open();
        for (int i = 0; i < 4; i++) {
            lab.x.send(0, 1, i);
        }
        lab.drop(1);
        lab.x.tick(1);
        lab.segment(0, A, 1101, 106, 9, 1);
        lab.went(1, "A 105 1101 24");
        lab.is(0, Lab.WIN, 24);
        lab.is(0, Lab.IN, 0);
        lab.segment(0, A, 1101, 105 + 32767, 9);
        lab.went(1, "A 105 1101 24");
        lab.is(0, Lab.WIN, 24);
        // Further on it counts as old: nothing is confirmed, the rest is taken.
        lab.segment(0, A, 1101, 105 + 32768, 9, 1);
        lab.went(1, "A 105 1102 23");
        lab.is(0, Lab.WIN, 9);
        lab.is(0, Lab.UNA, 101);
        lab.segment(0, A, 1102, 100, 10);
        lab.is(0, Lab.WIN, 10);
        lab.is(0, Lab.TIMER, 3);
        lab.segment(0, A, 1102, 103, 11);
        lab.is(0, Lab.UNA, 103);
        lab.is(0, Lab.OUT, 2);
        lab.is(0, Lab.TIMER, 4);
        lab.segment(0, A, 1102, 105, 11);
        lab.is(0, Lab.UNA, 105);
        lab.is(0, Lab.OUT, 0);
        lab.is(0, Lab.TIMER, 0);
        lab.went(1, "");
    }

    private static void earlyBytes() {
        Lab lab = new Lab(due).open();
        lab.segment(1, A, 103, 1101, 24, 3, 4);
        lab.went(0, "A 1101 101 24");
        lab.is(1, Lab.IN, 0);
        lab.segment(1, A, 106, 1101, 24, 6);
        lab.segment(1, A, 101, 1101, 24, 1);
        lab.drop(0);
        lab.is(1, Lab.IN, 1);
        lab.segment(1, A, 102, 1101, 24, 2);
        lab.went(0, "A 1101 105 20");
        lab.segment(1, A, 105, 1101, 24, 5);
        lab.went(0, "A 1101 107 18");
        for (int i = 1; i <= 6; i++) {
            due.is("byte " + i, lab.x.read(1, 1), i);
        }
        // What was kept is gone with the connection.
        lab.segment(1, A, 109, 1101, 24, 9);
        lab.segment(1, A + Lab.FIN, 110, 1101, 24);
        lab.x.abort(1, 1);
        lab.x.listen(1, 1);
        lab.segment(1, Lab.SYN, 106, 0, 24);
        lab.segment(1, A, 107, 1101, 24, 7, 8);
        lab.state(1, Lab.OPEN);
        lab.is(1, Lab.IN, 2);
        lab.segment(1, A, 109, 1101, 24, 19);
        lab.state(1, Lab.OPEN);
        lab.is(1, Lab.IN, 3);
    }

    private static void bytesOverlap() {
        Lab lab = new Lab(due).open();
        lab.segment(1, A, 103, 1101, 24, 3, 4);
        lab.segment(1, A, 102, 1101, 24, 12, 13, 14, 15);
        lab.segment(1, A, 101, 1101, 24, 1, 22, 23);
        int[] want = {1, 12, 3, 4, 15, -1};
        for (int v : want) {
            due.is("the byte that came first", lab.x.read(1, 1), v);
        }
        lab.drop(0);
        lab.segment(1, A, 101, 1101, 24, 9, 9, 9, 9, 9);
        lab.went(0, "A 1101 106 24");
        due.is("old bytes", lab.x.read(1, 1), -1);
    }

    private static void bytesBeyondRoom() {
        Lab lab = new Lab(due).open();
        lab.fill(1, 20);
        lab.drop(0);
        lab.segment(1, A, 121, 1101, 24, 1, 2, 3, 4, 5, 6);
        lab.went(0, "A 1101 125 0");
        lab.is(1, Lab.IN, 24);
        lab.x.read(1, 1);
        lab.drop(0);
        lab.segment(1, A, 125, 1101, 24, 50, 60);
        lab.went(0, "A 1101 126 0");
        for (int i = 0; i < 23; i++) {
            lab.x.read(1, 1);
        }
        due.is("the byte that came when there was room", lab.x.read(1, 1), 50);
        due.is("no more", lab.x.read(1, 1), -1);
    }

    private static void numbersWrap() {
        Lab lab = new Lab(due).meet();
        lab.x.listen(1, 1);
        lab.segment(1, Lab.SYN, 65530, 0, 24);
        lab.went(0, "SA 1100 65531 24");
        lab.segment(1, A, 65531, 1101, 24);
        lab.state(1, Lab.OPEN);
        lab.segment(1, A, 2, 1101, 24, 7, 8);
        lab.went(0, "A 1101 65531 24");
        lab.segment(1, A, 65529, 1101, 24, 98, 99, 0, 1, 2, 3, 4, 5, 6);
        lab.went(0, "A 1101 4 15");
        for (int i = 0; i < 9; i++) {
            due.is("byte " + i, lab.x.read(1, 1), i);
        }
        lab.segment(1, A + Lab.FIN, 4, 1101, 24);
        lab.state(1, Lab.CLOSE_WAIT);
        lab.is(1, Lab.RCV, 5);
        // 0 is a number like others, not "no FIN".
        lab = new Lab(due).meet();
        lab.x.listen(1, 1);
        lab.segment(1, Lab.SYN, 65533, 0, 24);
        lab.segment(1, A, 65534, 1101, 24, 1, 2);
        lab.state(1, Lab.OPEN);
        lab.is(1, Lab.RCV, 0);
        lab = new Lab(due).meet();
        lab.x.listen(1, 1);
        lab.segment(1, Lab.SYN, 65533, 0, 24);
        lab.drop(0);
        lab.segment(1, A + Lab.FIN, 65534, 1101, 24, 1);
        lab.state(1, Lab.CLOSE_WAIT);
        lab.is(1, Lab.RCV, 0);
        lab.went(0, "A 1101 0 23");
    }

    private static void finEarly() {
        Lab lab = new Lab(due).open();
        lab.segment(1, A + Lab.FIN, 103, 1101, 24, 3);
        lab.went(0, "A 1101 101 24");
        lab.state(1, Lab.OPEN);
        lab.segment(1, A, 101, 1101, 24, 1, 2);
        lab.went(0, "A 1101 105 21");
        lab.state(1, Lab.CLOSE_WAIT);
        due.is("byte", lab.x.read(1, 1), 1);
        due.is("byte", lab.x.read(1, 1), 2);
        due.is("byte", lab.x.read(1, 1), 3);
    }

    private static void finIsReplaced() {
        Lab lab = new Lab(due).open();
        lab.segment(1, A + Lab.FIN, 103, 1101, 24);
        lab.segment(1, A + Lab.FIN, 105, 1101, 24);
        lab.segment(1, A, 101, 1101, 24, 1, 2);
        lab.state(1, Lab.OPEN);
        lab.is(1, Lab.RCV, 103);
        lab.segment(1, A, 103, 1101, 24, 3, 4);
        lab.state(1, Lab.CLOSE_WAIT);
        lab.is(1, Lab.RCV, 106);
    }

    private static void finBehindBytes() {
        Lab lab = new Lab(due).open();
        // Bytes go IN as far as they go; a FIN that lies below is passed by.
        lab.segment(1, A + Lab.FIN, 102, 1101, 24);
        lab.segment(1, A, 101, 1101, 24, 1, 2, 3);
        lab.state(1, Lab.OPEN);
        lab.is(1, Lab.RCV, 104);
        lab.is(1, Lab.IN, 3);
    }

    private static void finOnFullRoom() {
        Lab lab = new Lab(due).open();
        lab.fill(1, 20);
        lab.drop(0);
        lab.segment(1, A + Lab.FIN, 121, 1101, 24, 1, 2, 3, 4, 5);
        lab.state(1, Lab.OPEN);
        lab.is(1, Lab.RCV, 125);
        // That FIN was not kept: its number comes, and nothing ends.
        lab.x.read(1, 1);
        lab.segment(1, A, 125, 1101, 24, 5);
        lab.is(1, Lab.RCV, 126);
        lab.state(1, Lab.OPEN);
        lab = new Lab(due).open();
        lab.fill(1, 20);
        lab.drop(0);
        lab.segment(1, A + Lab.FIN, 121, 1101, 24, 1, 2, 3, 4);
        lab.state(1, Lab.CLOSE_WAIT);
        lab.went(0, "A 1101 126 0");
        lab.is(1, Lab.RCV, 126);
        // Four is the room: a FIN at its end is kept, one behind it is not.
        lab = new Lab(due).open();
        lab.fill(1, 20);
        lab.segment(1, A + Lab.FIN, 124, 1101, 24, 4);
        lab.segment(1, A, 121, 1101, 24, 1, 2, 3);
        lab.state(1, Lab.CLOSE_WAIT);
    }

    private static void finOneAndTwo() {
        Lab lab = new Lab(due).open();
        lab.x.close(0, 1);
        lab.drop(1);
        lab.segment(0, A + Lab.FIN, 1101, 101, 24, 5);
        lab.state(0, Lab.BOTH);
        lab.went(1, "A 102 1103 23");
        lab.is(0, Lab.TIMER, 4);
        lab.segment(0, A, 1103, 101, 24, 6);
        lab.state(0, Lab.BOTH);
        lab.went(1, "A 102 1103 23");
        lab.is(0, Lab.IN, 1);
        lab.segment(0, A, 1103, 102, 24);
        lab.state(0, Lab.TIME);
        lab.is(0, Lab.TIMER, 8);
        lab.went(1, "");
        due.is("TIME may still be read", lab.x.read(0, 1), 5);

        // The FIN is confirmed and the other's comes in one segment.
        lab = new Lab(due).open();
        lab.x.close(0, 1);
        lab.drop(1);
        lab.segment(0, A + Lab.FIN, 1101, 102, 24);
        lab.state(0, Lab.TIME);
        lab.is(0, Lab.TIMER, 8);
        lab.went(1, "A 102 1102 24");

        lab = new Lab(due).open();
        lab.x.close(0, 1);
        lab.drop(1);
        lab.segment(0, A, 1101, 102, 24, 1);
        lab.state(0, Lab.FIN_2);
        lab.is(0, Lab.TIMER, 0);
        lab.went(1, "A 102 1102 23");
        lab.x.tick(20);
        lab.state(0, Lab.FIN_2);
        lab.segment(0, A + Lab.FIN, 1102, 102, 24, 2);
        lab.state(0, Lab.TIME);
        lab.is(0, Lab.TIMER, 8);
        lab.is(0, Lab.IN, 2);
    }

    private static void closeWaitTakesNoData() {
        Lab lab = new Lab(due).halfClosed();
        lab.segment(0, A, 1102, 101, 7, 1, 2);
        lab.went(1, "A 101 1102 24");
        lab.is(0, Lab.IN, 0);
        lab.is(0, Lab.RCV, 1102);
        lab.is(0, Lab.WIN, 7);
        lab.segment(0, A + Lab.FIN, 1102, 101, 7);
        lab.went(1, "A 101 1102 24");
        lab.segment(0, A, 1102, 101, 8);
        lab.went(1, "");
        lab.is(0, Lab.WIN, 8);
    }

    private static Lab inTime() {
        Lab lab = new Lab(due).halfClosed();
        lab.x.close(0, 1);
        lab.carryAll();
        lab.state(1, Lab.TIME);
        lab.x.tick(3);
        lab.is(1, Lab.TIMER, 5);
        return lab;
    }

    private static void timeState() {
        Lab lab = inTime();
        lab.segment(1, A, 102, 1102, 24);
        lab.is(1, Lab.TIMER, 5);
        lab.went(0, "");
        lab.segment(1, A, 102, 1102, 24, 1);
        lab.is(1, Lab.TIMER, 8);
        lab.went(0, "A 1102 102 24");
        lab.x.tick(2);
        // The other's FIN once more does not fit.
        lab.segment(1, A + Lab.FIN, 101, 1102, 24);
        lab.is(1, Lab.TIMER, 8);
        lab.went(0, "A 1102 102 24");
        lab.x.tick(2);
        lab.segment(1, Lab.RST, 101, 0, 0);
        lab.is(1, Lab.TIMER, 8);
        lab.went(0, "");
        lab.x.tick(7);
        lab.state(1, Lab.TIME);
        lab.segment(1, Lab.RST, 102, 0, 0);
        lab.state(1, Lab.CLOSED);
    }

    private static void lastState() {
        Lab lab = new Lab(due).halfClosed();
        lab.x.send(0, 1, 1);
        lab.x.close(0, 1);
        lab.drop(1);
        lab.state(0, Lab.LAST);
        lab.segment(0, A, 1102, 102, 24);
        lab.state(0, Lab.LAST);
        // LAST becomes CLOSED and nothing else: no ACK for what comes with it.
        lab.segment(0, A, 1102, 103, 24, 7);
        lab.state(0, Lab.CLOSED);
        lab.went(1, "");
    }

    private static void endingOpenToLast() {
        Lab lab = new Lab(due).open();
        lab.segment(0, A, 1101, 101, 0);
        lab.x.send(0, 1, 7);
        lab.x.close(0, 1);
        lab.segment(0, A + Lab.FIN, 1101, 101, 0);
        lab.state(0, Lab.CLOSE_WAIT);
        lab.is(0, Lab.ENDING, 1);
        due.no("close again", lab.x.close(0, 1));
        lab.drop(1);
        lab.segment(0, A, 1102, 101, 5);
        lab.went(1, "A 101 1102 24 :7; FA 102 1102 24");
        lab.state(0, Lab.LAST);
    }

    private static void pushAfterConfirmation() {
        Lab lab = new Lab(due).open();
        lab.segment(0, A, 1101, 101, 2);
        for (int i = 0; i < 6; i++) {
            lab.x.send(0, 1, i);
        }
        lab.drop(1);
        lab.x.tick(2);
        // Data are confirmed before the bytes that now may go.
        lab.segment(0, A, 1101, 103, 3, 99);
        lab.went(1, "A 103 1102 23; A 103 1102 23 :2 3 4");
        lab.is(0, Lab.TIMER, 4);
        lab.is(0, Lab.OUT, 4);
    }

    /** A segment for socket 1 of host 1 with so many bytes of data. */
    private static int[] longSegment(int count) {
        int[] m = Model.join(new int[] {1, A, 0, 101, 4, 77, 24, 0, 0, 0}, Lab.bytes(1, count));
        Frames.putPair(m, 8, Model.check(Model.join(new int[] {1, 2, 6, m.length}, m)));
        return m;
    }

    private static void sizesOfSegments() {
        Lab lab = new Lab(due).open();
        lab.twoPackets(1, 6, longSegment(33));
        lab.is(1, Lab.IN, 0);
        lab.went(0, "");
        lab.twoPackets(1, 6, longSegment(32));
        lab.is(1, Lab.IN, 24);
        lab.went(0, "A 1101 125 0");
        due.is("the first byte", lab.x.read(1, 1), 1);
    }

    private static void pieceSegments() {
        Lab lab = new Lab(due).open();
        lab.segment(0, A, 1101, 101, 0);
        for (int i = 0; i < 24; i++) {
            lab.x.send(0, 1, i);
        }
        lab.segment(0, A, 1101, 101, 24);
        due.is("two packets", lab.x.flying(1), 2);
        lab.x.disturb(1, 1);
        lab.x.carry(1);
        lab.is(1, Lab.IN, 0);
        lab.x.carry(1);
        lab.is(1, Lab.IN, 24);
        lab.went(0, "A 1101 125 0");
        for (int i = 0; i < 24; i++) {
            due.is("byte " + i, lab.x.read(1, 1), i);
        }
    }
}
