/** Terms: to push. */
public final class PushTest {
    private static final int A = Lab.ACK, F = Lab.FIN;
    private static final Due due = new Due();

    public static void main(String[] args) {
        windowOfZero();
        windowOfOne();
        windowIsFull();
        windowThatShrinks();
        lesserOfWindowAnd48();
        atMost32InOneSegment();
        onlyWhatFits();
        packetsOfLongSegments();
        endingWaitsForAllOut();
        endingWithNothingOut();
        endingNeedsNoWindow();
        endingAfterAByteThatTheTimerSent();
        closeWaitBecomesLast();
        timerIsSetOnce();
        timerWithoutWindow();
        timerStaysOff();
        otherStatesPushNothing();
        due.end();
    }

    /** Host 0 is OPEN with this window and so many bytes OUT, 0, 1 and so on, that came when the window was 0. */
    private static Lab waiting(int count) {
        Lab lab = new Lab(due).open();
        lab.segment(0, A, 1101, 101, 0);
        for (int i = 0; i < count; i++) {
            due.yes("send " + i, lab.x.send(0, 1, i));
        }
        lab.flying(1, 0);
        lab.is(0, Lab.OUT, count);
        return lab;
    }

    private static void windowOfZero() {
        Lab lab = waiting(3);
        lab.is(0, Lab.NXT, 101);
        lab.is(0, Lab.UNA, 101);
        lab.segment(0, A, 1101, 101, 0);
        lab.went(1, "");
        lab.segment(0, A, 1101, 101, 3);
        lab.went(1, "A 101 1101 24 :0 1 2");
        lab.is(0, Lab.NXT, 104);
    }

    private static void windowOfOne() {
        Lab lab = waiting(3);
        lab.segment(0, A, 1101, 101, 1);
        lab.went(1, "A 101 1101 24 :0");
        lab.is(0, Lab.NXT, 102);
        lab.segment(0, A, 1101, 102, 1);
        lab.went(1, "A 102 1101 24 :1");
        lab.is(0, Lab.OUT, 2);
    }

    /** "as long as .. NXT - UNA is less than the lesser of WIN and 48" */
    private static void windowIsFull() {
        Lab lab = new Lab(due).open();
        lab.segment(0, A, 1101, 101, 3);
        for (int i = 0; i < 5; i++) {
            due.yes("send " + i, lab.x.send(0, 1, i));
        }
        lab.is(0, Lab.OUT, 5);
        lab.is(0, Lab.NXT, 104);
        lab.went(1, "A 101 1101 24 :0; A 102 1101 24 :1; A 103 1101 24 :2");
        lab.segment(0, A, 1101, 102, 3);
        lab.went(1, "A 104 1101 24 :3");
        lab.segment(0, A, 1101, 102, 9);
        lab.went(1, "A 105 1101 24 :4");
    }

    private static void windowThatShrinks() {
        Lab lab = waiting(8);
        lab.segment(0, A, 1101, 101, 5);
        lab.went(1, "A 101 1101 24 :0 1 2 3 4");
        // Fewer than were sent already, then just as many, then one more.
        lab.segment(0, A, 1101, 101, 2);
        lab.segment(0, A, 1101, 101, 0);
        lab.segment(0, A, 1101, 101, 5);
        lab.went(1, "");
        lab.is(0, Lab.NXT, 106);
        lab.segment(0, A, 1101, 101, 6);
        lab.went(1, "A 106 1101 24 :5");
    }

    private static void lesserOfWindowAnd48() {
        for (int window : new int[] {47, 48, 49, 255}) {
            Lab lab = waiting(50);
            lab.segment(0, A, 1101, 101, window);
            lab.is(0, Lab.NXT, 101 + Math.min(window, 48));
            lab.is(0, Lab.OUT, 50);
            lab.drop(1);
            lab.segment(0, A, 1101, 102, window);
            lab.is(0, Lab.NXT, 102 + Math.min(window, 48));
            lab.went(1, "A " + (101 + Math.min(window, 48)) + " 1101 24 :" + Math.min(window, 48));
        }
    }

    /** "of as many of these as fit below that and 32" */
    private static void atMost32InOneSegment() {
        for (int count = 31; count <= 33; count++) {
            Lab lab = waiting(count);
            int ident = lab.x.host(0, Lab.IDENT);
            lab.segment(0, A, 1101, 101, 255);
            lab.is(0, Lab.NXT, 101 + count);
            lab.hostIs(0, Lab.IDENT, ident + (count == 33 ? 2 : 1));
            lab.flying(1, count == 33 ? 3 : 2);
            due.is("bytes of the second packet", lab.x.octet(1, 1, 3), 10 + 10 + Math.min(count, 32) - 24);
            if (count == 33) {
                due.is("SEQ of the second segment", lab.x.octet(1, 2, 16), 133);
                due.is("its byte", lab.x.octet(1, 2, 23), 32);
                due.is("its size", lab.x.octet(1, 2, -1), 24);
            }
        }
    }

    private static void onlyWhatFits() {
        Lab lab = waiting(64);
        lab.segment(0, A, 1101, 101, 33);
        lab.is(0, Lab.NXT, 134);
        lab.drop(1);
        lab.segment(0, A, 1101, 133, 3);
        // One is under way, so two more fit.
        lab.went(1, "A 134 1101 24 :33 34");
        lab.is(0, Lab.NXT, 136);
        lab.is(0, Lab.OUT, 32);
    }

    private static void packetsOfLongSegments() {
        Lab lab = waiting(64);
        lab.segment(0, A, 1101, 101, 200);
        lab.is(0, Lab.NXT, 149);
        int ident = lab.x.octet(1, 0, 4);
        // 32 bytes make a message of 42, 16 one of 26: two packets each.
        lab.went(1, "piece 128 of " + ident + " size 24; piece 6 of " + ident + " size 18; piece 128 of " + (ident + 1)
                + " size 24; piece 6 of " + (ident + 1) + " size 2");
        // 14 bytes of data make a message of 24, 15 one of 25.
        lab = waiting(14);
        lab.segment(0, A, 1101, 101, 200);
        lab.flying(1, 1);
        lab = waiting(15);
        lab.segment(0, A, 1101, 101, 200);
        lab.flying(1, 2);
    }

    /** "if it is ENDING, all OUT is sent: FIN + ACK with SEQ NXT goes, its FIN was sent, NXT grows by 1" */
    private static void endingWaitsForAllOut() {
        Lab lab = waiting(2);
        due.yes("close", lab.x.close(0, 1));
        lab.went(1, "");
        lab.state(0, Lab.OPEN);
        lab.is(0, Lab.ENDING, 1);
        lab.segment(0, A, 1101, 101, 1);
        lab.went(1, "A 101 1101 24 :0");
        lab.state(0, Lab.OPEN);
        lab.segment(0, A, 1101, 102, 1);
        lab.went(1, "A 102 1101 24 :1; FA 103 1101 24");
        lab.socketIs(0, Lab.FIN_1, 102, 104, 1101, 1, 1, 0, 4, 4, 0, 1);
        // The FIN goes once.
        lab.segment(0, A, 1101, 103, 9);
        lab.went(1, "");
        lab.state(0, Lab.FIN_1);
    }

    private static void endingWithNothingOut() {
        Lab lab = new Lab(due).open();
        lab.x.close(0, 1);
        lab.went(1, "FA 101 1101 24");
        lab.socketIs(0, Lab.FIN_1, 101, 102, 1101, 24, 0, 0, 4, 4, 0, 1);
    }

    private static void endingNeedsNoWindow() {
        Lab lab = new Lab(due).open();
        lab.segment(0, A, 1101, 101, 0);
        lab.x.close(0, 1);
        lab.went(1, "FA 101 1101 24");
        lab.state(0, Lab.FIN_1);
        lab = waiting(1);
        lab.segment(0, A, 1101, 101, 1);
        lab.drop(1);
        // All OUT is sent, though not confirmed, and the window is full.
        lab.x.close(0, 1);
        lab.went(1, "FA 102 1101 24");
        lab.is(0, Lab.OUT, 1);
    }

    private static void endingAfterAByteThatTheTimerSent() {
        Lab lab = waiting(1);
        lab.x.close(0, 1);
        lab.x.tick(4);
        lab.went(1, "A 101 1101 24 :0");
        lab.state(0, Lab.OPEN);
        // All is sent now, so the next push ends it, whatever the window is.
        lab.segment(0, A, 1101, 101, 0);
        lab.went(1, "FA 102 1101 24");
        lab.state(0, Lab.FIN_1);
    }

    /** "OPEN becomes FIN 1, CLOSE WAIT LAST" */
    private static void closeWaitBecomesLast() {
        Lab lab = new Lab(due).in(Lab.CLOSE_WAIT);
        lab.x.close(0, 1);
        lab.went(1, "FA 101 1102 24");
        lab.socketIs(0, Lab.LAST, 101, 102, 1102, 24, 0, 0, 4, 4, 0, 1);
        lab = waiting(1);
        lab.x.close(0, 1);
        lab.segment(0, A + F, 1101, 101, 0);
        lab.state(0, Lab.CLOSE_WAIT);
        lab.is(0, Lab.ENDING, 1);
        lab.drop(1);
        lab.segment(0, A, 1102, 101, 5);
        lab.went(1, "A 101 1102 24 :0; FA 102 1102 24");
        lab.state(0, Lab.LAST);
    }

    /** "if the timer is off, and NXT is not UNA ..: the timer is RTO" */
    private static void timerIsSetOnce() {
        Lab lab = new Lab(due).open();
        lab.is(0, Lab.TIMER, 0);
        lab.x.send(0, 1, 0);
        lab.is(0, Lab.TIMER, 4);
        lab.x.tick(1);
        lab.x.send(0, 1, 1);
        lab.is(0, Lab.TIMER, 3);
        lab.x.close(0, 1);
        lab.is(0, Lab.TIMER, 3);
    }

    /** ".. or bytes OUT were not sent" */
    private static void timerWithoutWindow() {
        Lab lab = waiting(1);
        lab.is(0, Lab.TIMER, 4);
        lab.is(0, Lab.NXT, 101);
        // All that was sent is confirmed, the rest has to wait: the timer begins again.
        lab = waiting(2);
        lab.segment(0, A, 1101, 101, 1);
        lab.x.tick(2);
        lab.segment(0, A, 1101, 102, 0);
        lab.socketIs(0, Lab.OPEN, 102, 102, 1101, 0, 1, 0, 4, 4, 0, 0);
    }

    private static void timerStaysOff() {
        Lab lab = new Lab(due).open();
        lab.segment(0, A, 1101, 101, 9, 1);
        lab.is(0, Lab.TIMER, 0);
        lab.x.send(0, 1, 5);
        lab.segment(0, A, 1102, 102, 9);
        lab.is(0, Lab.TIMER, 0);
        lab.x.tick(60);
        lab.is(0, Lab.TIMER, 0);
        lab.is(0, Lab.TRIES, 0);
    }

    /** "in OPEN and CLOSE WAIT" */
    private static void otherStatesPushNothing() {
        Lab lab = waiting(3);
        lab.x.close(0, 1);
        lab.segment(0, A, 1101, 101, 3);
        lab.went(1, "A 101 1101 24 :0 1 2; FA 104 1101 24");
        lab.state(0, Lab.FIN_1);
        for (int ack = 101; ack <= 104; ack++) {
            lab.segment(0, A, 1101, ack, 255);
            lab.went(1, "");
        }
        lab.segment(0, A, 1101, 105, 255);
        lab.state(0, Lab.FIN_2);
        lab.segment(0, A, 1101, 105, 9);
        lab.went(1, "");
        lab.is(0, Lab.TIMER, 0);
    }
}
