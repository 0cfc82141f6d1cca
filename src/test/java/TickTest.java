/** Promise 12: tick, with the timer of sockets, ages and times of hosts. */
public final class TickTest {
    private static final Due due = new Due();

    public static void main(String[] args) {
        clock();
        synIsSentAgainAndGivenUp();
        synAckIsSentAgain();
        bytesAreSentAgain();
        givingUpSendsRst();
        confirmationResetsTries();
        slotsGetOld();
        agesAndTimes();
        hostZeroComesFirst();
        timersAtOnceInOneTick();
        due.end();
    }

    private static void clock() {
        WireHosts x = new WireHosts();
        due.is("tick(1)", x.tick(1), 1);
        due.is("tick(60)", x.tick(60), 61);
        due.is("tick(0)", x.tick(0), -1);
        due.is("tick(61)", x.tick(61), -1);
        due.is("tick(-1)", x.tick(-1), -1);
        due.is("tick(MIN)", x.tick(Integer.MIN_VALUE), -1);
        due.is("tick(MAX)", x.tick(Integer.MAX_VALUE), -1);
        due.is("tick(2)", x.tick(2), 63);
    }

    private static void synIsSentAgainAndGivenUp() {
        Lab lab = new Lab(due).meet();
        lab.x.connect(0, 1);
        lab.drop(1);
        int[] waits = {4, 8, 16, 32, 32, 32, 32};
        int[] rtos = {8, 16, 32, 32, 32, 32};
        for (int i = 0; i < 6; i++) {
            if (lab.x.host(0, 0) == 0) {
                lab.carryAll();
            }
            lab.x.tick(waits[i] - 1);
            lab.is(0, Lab.TRIES, i);
            lab.is(0, Lab.TIMER, 1);
            lab.x.tick(1);
            lab.is(0, Lab.TRIES, i + 1);
            lab.is(0, Lab.RTO, rtos[i]);
            lab.is(0, Lab.TIMER, rtos[i]);
            lab.state(0, Lab.SYN_SENT);
            if (i < 2) {
                lab.went(1, "S 100 0 24");
            }
            lab.drop(1);
        }
        lab.x.tick(31);
        lab.state(0, Lab.SYN_SENT);
        lab.x.tick(1);
        lab.state(0, Lab.CLOSED);
        lab.is(0, Lab.RTO, 4);
        lab.is(0, Lab.TRIES, 0);
    }

    private static void synAckIsSentAgain() {
        Lab lab = new Lab(due).meet();
        lab.x.listen(1, 1);
        lab.x.connect(0, 1);
        lab.x.carry(1);
        lab.drop(0);
        lab.x.tick(4);
        lab.went(0, "SA 1100 101 24");
        lab.went(1, "S 100 0 24");
        lab.state(1, Lab.SYN_GOT);
        lab.is(1, Lab.RTO, 8);
    }

    private static void bytesAreSentAgain() {
        Lab lab = new Lab(due).open();
        lab.x.send(0, 1, 1);
        lab.x.send(0, 1, 2);
        lab.drop(1);
        lab.x.tick(3);
        lab.went(1, "");
        lab.x.tick(1);
        lab.went(1, "A 101 1101 24 :1 2");
        lab.is(0, Lab.NXT, 103);
        // Those that the window holds back are not sent again, and 32 are the most.
        lab = new Lab(due).open();
        lab.segment(0, Lab.ACK, 1101, 101, 2);
        lab.x.send(0, 1, 1);
        lab.x.send(0, 1, 2);
        lab.x.send(0, 1, 3);
        lab.drop(1);
        lab.x.tick(4);
        lab.went(1, "A 101 1101 24 :1 2");
        lab = new Lab(due).open();
        lab.segment(0, Lab.ACK, 1101, 101, 255);
        for (int i = 0; i < 40; i++) {
            lab.x.send(0, 1, i);
            lab.drop(1);
        }
        lab.x.tick(4);
        int ident = lab.x.octet(1, 0, 4);
        lab.went(1, "piece 128 of " + ident + " size 24; piece 6 of " + ident + " size 18");
    }

    private static void givingUpSendsRst() {
        Lab lab = new Lab(due).open();
        lab.x.send(0, 1, 1);
        lab.drop(1);
        for (int wait : new int[] {4, 8, 16, 32, 32, 32}) {
            lab.x.tick(wait);
        }
        lab.state(0, Lab.OPEN);
        lab.is(0, Lab.TRIES, 6);
        lab.drop(1);
        lab.x.tick(31);
        // Host 1's question makes its station known again; what waited in the line is lost.
        lab.x.ping(1, 0, 0);
        lab.x.carry(0);
        lab.drop(1);
        lab.x.tick(1);
        lab.went(1, "R 102 1101 24");
        lab.state(0, Lab.CLOSED);
    }

    private static void confirmationResetsTries() {
        Lab lab = new Lab(due).open();
        lab.x.send(0, 1, 1);
        lab.x.send(0, 1, 2);
        lab.x.tick(12);
        lab.drop(1);
        lab.is(0, Lab.TRIES, 2);
        lab.is(0, Lab.RTO, 16);
        // The same number once more confirms nothing.
        lab.segment(0, Lab.ACK, 1101, 101, 24);
        lab.is(0, Lab.TRIES, 2);
        lab.is(0, Lab.TIMER, 16);
        lab.segment(0, Lab.ACK, 1101, 102, 24);
        lab.is(0, Lab.TRIES, 0);
        lab.is(0, Lab.RTO, 4);
        lab.is(0, Lab.TIMER, 4);
    }

    private static void slotsGetOld() {
        Lab lab = new Lab(due).meet();
        lab.arrive(0, Lab.packet(0, 1, 128, 1, 1, 2, 3, 4));
        lab.x.tick(5);
        lab.arrive(0, Lab.packet(0, 2, 128, 1, 1, 2, 3, 4));
        lab.x.tick(4);
        lab.hostIs(0, 4, 2);
        // More of the first does not make it younger.
        lab.arrive(0, Lab.packet(0, 1, 129, 1, 1, 2, 3, 4));
        lab.x.tick(1);
        lab.hostIs(0, 4, 1);
        lab.x.tick(4);
        lab.hostIs(0, 4, 1);
        lab.x.tick(1);
        lab.hostIs(0, 4, 0);
    }

    private static void agesAndTimes() {
        Lab lab = new Lab(due);
        lab.x.ping(0, 0, 0);
        lab.x.tick(1);
        lab.hostIs(0, 6, 3);
        lab.carryAll();
        lab.hostIs(0, 0, 30);
        lab.hostIs(1, 0, 30);
        lab.x.tick(10);
        lab.hostIs(0, 6, 0);
        lab.hostIs(0, 0, 20);
        lab.x.tick(19);
        lab.hostIs(0, 0, 1);
        lab.x.ping(0, 0, 0);
        lab.went(1, "echo 8 token 0 size 5");
        lab.x.tick(1);
        lab.hostIs(0, 0, 0);
        lab.x.tick(1);
        lab.hostIs(0, 0, 0);
    }

    private static void hostZeroComesFirst() {
        // The time for which a station is known goes down before the sockets' timers are looked at.
        Lab lab = new Lab(due).meet();
        lab.x.tick(26);
        lab.x.connect(0, 1);
        lab.x.connect(1, 1);
        lab.drop(0);
        lab.drop(1);
        lab.x.tick(4);
        lab.hostIs(0, 0, 0);
        lab.hostIs(0, 1, 1);
        lab.hostIs(1, 1, 1);
        lab.went(1, "ask 1 to 255 from 16");
        lab.went(0, "ask 1 to 255 from 17");
    }

    private static void timersAtOnceInOneTick() {
        Lab lab = new Lab(due).meet();
        lab.x.connect(0, 2);
        lab.x.connect(0, 1);
        lab.drop(1);
        lab.x.tick(4);
        lab.went(1, "S 100 0 24; socket 2 S 200 0 24");
        // Many ticks in one call are as good as many calls.
        lab.x.tick(24);
        lab.went(1, "S 100 0 24; socket 2 S 200 0 24; S 100 0 24; socket 2 S 200 0 24");
    }
}
