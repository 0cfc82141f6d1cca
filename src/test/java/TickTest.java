/** Promise 12: tick, and the term a tick. */
public final class TickTest {
    private static final Due due = new Due();

    public static void main(String[] args) {
        numbersOfTicks();
        refusedTicksChangeNothing();
        manyTicksAreAsManyCalls();
        timesGoDownToZero();
        slotsOfBothHosts();
        hostZeroComesFirst();
        socketOneComesFirst();
        timerAtOnce();
        timersThatAreOff();
        clockIsReadByWhatBeginsLater();
        due.end();
    }

    /** "n ticks; answers the clock. Refused (NONE): n is not 1 .. 60." */
    private static void numbersOfTicks() {
        Counted x = new Counted();
        due.is("tick(0) at first", x.tick(0), -1);
        due.is("tick(61) at first", x.tick(61), -1);
        due.is("tick(1)", x.tick(1), 1);
        due.is("tick(60)", x.tick(60), 61);
        for (int n : new int[] {0, 61, -1, 62, Integer.MIN_VALUE, Integer.MAX_VALUE}) {
            due.is("tick(" + n + ")", x.tick(n), -1);
        }
        due.is("tick(59)", x.tick(59), 120);
        due.is("tick(2)", x.tick(2), 122);
    }

    private static void refusedTicksChangeNothing() {
        Lab lab = new Lab(due);
        lab.x.connect(0, 1);
        lab.x.ping(1, 0, 43);
        String before = lab.all();
        for (int n : new int[] {0, 61, -1, Integer.MIN_VALUE, Integer.MAX_VALUE}) {
            due.is("tick(" + n + ")", lab.x.tick(n), -1);
        }
        due.same("all", lab.all(), before);
        due.is("the clock", lab.x.tick(1), 1);
    }

    private static void manyTicksAreAsManyCalls() {
        Lab one = new Lab(due);
        Lab many = new Lab(due);
        for (Lab lab : new Lab[] {one, many}) {
            lab.meet();
            lab.x.connect(0, 1);
            lab.x.connect(1, 2);
            lab.x.ping(0, 3, 43);
        }
        due.is("one call", one.x.tick(60), 60);
        for (int i = 1; i <= 60; i++) {
            due.is("one of many", many.x.tick(1), i);
        }
        due.same("all", one.all(), many.all());
    }

    /** "its ask timer and the time for which a station is known go down by 1, if above 0" */
    private static void timesGoDownToZero() {
        Lab lab = new Lab(due);
        lab.x.ping(0, 0, 0);
        for (int left = 3; left >= 0; left--) {
            lab.x.tick(1);
            lab.hostIs(0, Lab.ASK_TIMER, left);
            lab.hostIs(1, Lab.ASK_TIMER, 0);
        }
        lab.x.tick(1);
        lab.hostIs(0, Lab.ASK_TIMER, 0);
        lab = new Lab(due).meet();
        for (int left = 29; left >= 0; left--) {
            lab.x.tick(1);
            lab.hostIs(0, Lab.KNOWN, left);
            lab.hostIs(1, Lab.KNOWN, left);
        }
        lab.x.tick(1);
        lab.hostIs(0, Lab.KNOWN, 0);
        lab.hostIs(1, Lab.KNOWN, 0);
    }

    /** "ages of slots grow by 1, a slot of age 10 is free": in both hosts, both slots */
    private static void slotsOfBothHosts() {
        Lab lab = new Lab(due).meet();
        for (int h = 0; h < 2; h++) {
            lab.arrive(h, Lab.packet(h, 1, 128, 1, 1, 2, 3, 4));
            lab.arrive(h, Lab.packet(h, 2, 128, 1, 1, 2, 3, 4));
        }
        lab.x.tick(9);
        lab.hostIs(0, Lab.SLOTS, 2);
        lab.hostIs(1, Lab.SLOTS, 2);
        lab.x.tick(1);
        lab.hostIs(0, Lab.SLOTS, 0);
        lab.hostIs(1, Lab.SLOTS, 0);
    }

    private static void hostZeroComesFirst() {
        // Each way has its own order, so that only what each host does in a tick can be seen: all of both is done.
        Lab lab = new Lab(due).meet();
        lab.x.connect(0, 1);
        lab.x.connect(1, 1);
        lab.drop(0);
        lab.drop(1);
        lab.x.tick(3);
        lab.flying(0, 0);
        lab.flying(1, 0);
        lab.x.tick(1);
        lab.went(1, "S 100 0 24");
        lab.went(0, "S 1100 0 24");
    }

    /** "the timers of sockets 1 and 2": in that order, whichever began first */
    private static void socketOneComesFirst() {
        Lab lab = new Lab(due).meet();
        lab.x.connect(0, 2);
        lab.x.connect(0, 1);
        lab.drop(1);
        lab.x.tick(4);
        lab.went(1, "S 100 0 24; socket 2 S 200 0 24");
        lab.x.tick(24);
        lab.went(1, "S 100 0 24; socket 2 S 200 0 24; S 100 0 24; socket 2 S 200 0 24");
    }

    /** "what is said of a timer at 0 is done at once": in the very tick, with the timer as it is set anew */
    private static void timerAtOnce() {
        Lab lab = new Lab(due).in(Lab.SYN_SENT);
        lab.x.tick(4);
        lab.flying(1, 1);
        lab.is(0, Lab.TIMER, 8);
        lab.x.tick(8);
        lab.flying(1, 2);
        lab.is(0, Lab.TIMER, 16);
        // Within one call too.
        lab = new Lab(due).in(Lab.SYN_SENT);
        lab.x.tick(28);
        lab.flying(1, 3);
        lab.is(0, Lab.TIMER, 32);
        lab.is(0, Lab.TRIES, 3);
    }

    /** "that are not off" */
    private static void timersThatAreOff() {
        Lab lab = new Lab(due).open();
        lab.x.tick(60);
        lab.socketIs(0, Lab.OPEN, 101, 101, 1101, 24, 0, 0, 0, 4, 0, 0);
        lab.socketIs(1, Lab.OPEN, 1101, 1101, 101, 24, 0, 0, 0, 4, 0, 0);
        lab.flying(0, 0);
        lab.flying(1, 0);
    }

    private static void clockIsReadByWhatBeginsLater() {
        Lab lab = new Lab(due).meet();
        lab.x.tick(7);
        lab.x.connect(0, 1);
        lab.x.tick(1);
        lab.x.connect(0, 2);
        lab.went(1, "S 107 0 24; socket 2 S 208 0 24");
    }
}
