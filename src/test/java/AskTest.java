/** Terms: to send a packet, the line, asking for a station and knowing it. */
public final class AskTest {
    private static final Due due = new Due();

    public static void main(String[] args) {
        questionAndAnswer();
        fourthAndFifthInTheLine();
        secondPacketIsTheFifth();
        theLineIsPerHost();
        questionAfterFourTicks();
        fullLineAsksToo();
        askTimerIsDownBeforeTimersOfSockets();
        knownForThirtyTicks();
        knownTimeIsDownBeforeTimersOfSockets();
        answerBeforeTheLine();
        anAnswerIsNotAnswered();
        knownAnew();
        stationAsItIsSaid();
        wrongAsks();
        askOfMoreThanFourBytes();
        due.end();
    }

    private static void questionAndAnswer() {
        Lab lab = new Lab(due);
        lab.x.ping(0, 1, 0);
        lab.hostIs(0, Lab.LINE, 1);
        lab.hostIs(0, Lab.ASK_TIMER, 4);
        lab.flying(1, 1);
        lab.frameIs(1, 0, 255, 16, 6, 1, 16, 1, 2);
        due.is("carry tells the type", lab.x.carry(1), 6);
        lab.hostIs(1, Lab.KNOWN, 30);
        lab.hostIs(1, Lab.STATION, 16);
        lab.hostIs(1, Lab.ASK_TIMER, 0);
        lab.frameIs(0, 0, 16, 17, 6, 2, 17, 2, 1);
        lab.x.tick(3);
        lab.x.carry(0);
        lab.hostIs(0, Lab.KNOWN, 30);
        lab.hostIs(0, Lab.STATION, 17);
        lab.hostIs(0, Lab.LINE, 0);
        lab.hostIs(1, Lab.KNOWN, 27);
        lab.went(0, "");
        lab.went(1, "echo 8 token 1 size 5");
        // And the other way round.
        lab = new Lab(due);
        lab.x.ping(1, 1, 0);
        lab.frameIs(0, 0, 255, 17, 6, 1, 17, 2, 1);
        lab.x.carry(0);
        lab.frameIs(1, 0, 17, 16, 6, 2, 16, 1, 2);
    }

    /** "it is put into the LINE (at most 4 packets; a fifth is lost)" */
    private static void fourthAndFifthInTheLine() {
        for (int h = 0; h < 2; h++) {
            Lab lab = new Lab(due);
            for (int i = 1; i <= 4; i++) {
                lab.x.ping(h, i, 0);
                lab.hostIs(h, Lab.LINE, i);
            }
            due.yes("a fifth", lab.x.ping(h, 5, 0));
            lab.hostIs(h, Lab.LINE, 4);
            lab.hostIs(h, Lab.IDENT, 5);
            lab.flying(1 - h, 1);
            lab.x.carry(1 - h);
            lab.x.carry(h);
            lab.went(1 - h, "echo 8 token 1 size 5; echo 8 token 2 size 5; echo 8 token 3 size 5; "
                    + "echo 8 token 4 size 5");
            lab.hostIs(h, Lab.LINE, 0);
        }
    }

    private static void secondPacketIsTheFifth() {
        Lab lab = new Lab(due);
        lab.x.ping(0, 1, 43);
        lab.hostIs(0, Lab.LINE, 2);
        lab.x.ping(0, 2, 0);
        lab.hostIs(0, Lab.LINE, 3);
        lab.x.ping(0, 3, 20);
        lab.hostIs(0, Lab.LINE, 4);
        lab.hostIs(0, Lab.IDENT, 3);
        lab.x.carry(1);
        lab.x.carry(0);
        lab.went(1, "piece 128 of 0 size 24; piece 6 of 0 size 24; echo 8 token 2 size 5; piece 128 of 2 size 24");
    }

    private static void theLineIsPerHost() {
        Lab lab = new Lab(due);
        for (int i = 0; i < 5; i++) {
            lab.x.ping(0, i, 0);
        }
        lab.hostIs(1, Lab.LINE, 0);
        lab.x.ping(1, 9, 0);
        lab.hostIs(1, Lab.LINE, 1);
        lab.hostIs(1, Lab.ASK_TIMER, 4);
        lab.hostIs(0, Lab.LINE, 4);
    }

    /** "a question goes to 255 if none went since the latest 4 ticks (the host's ASK TIMER is 0; it becomes 4)" */
    private static void questionAfterFourTicks() {
        Lab lab = new Lab(due);
        lab.x.ping(0, 1, 0);
        lab.went(1, "ask 1 to 255 from 16");
        lab.x.ping(0, 2, 0);
        lab.went(1, "");
        lab.hostIs(0, Lab.ASK_TIMER, 4);
        lab.x.tick(3);
        lab.hostIs(0, Lab.ASK_TIMER, 1);
        lab.x.ping(0, 3, 0);
        lab.went(1, "");
        lab.hostIs(0, Lab.ASK_TIMER, 1);
        lab.x.tick(1);
        lab.hostIs(0, Lab.ASK_TIMER, 0);
        // The line alone asks nothing.
        lab.went(1, "");
        lab.x.tick(1);
        lab.hostIs(0, Lab.ASK_TIMER, 0);
        lab.x.ping(0, 4, 0);
        lab.went(1, "ask 1 to 255 from 16");
        lab.hostIs(0, Lab.ASK_TIMER, 4);
        lab.hostIs(1, Lab.ASK_TIMER, 0);
        // A host that knows the station asks nothing.
        lab = new Lab(due).meet();
        lab.x.tick(4);
        lab.hostIs(0, Lab.ASK_TIMER, 0);
        lab.x.ping(0, 1, 0);
        lab.went(1, "echo 8 token 1 size 5");
        lab.hostIs(0, Lab.ASK_TIMER, 0);
        // Two packets of one message ask once.
        lab = new Lab(due);
        lab.x.ping(0, 1, 20);
        lab.went(1, "ask 1 to 255 from 16");
    }

    private static void fullLineAsksToo() {
        Lab lab = new Lab(due);
        for (int i = 0; i < 4; i++) {
            lab.x.ping(0, i, 0);
        }
        lab.drop(1);
        lab.x.tick(4);
        lab.x.ping(0, 5, 0);
        lab.hostIs(0, Lab.LINE, 4);
        lab.hostIs(0, Lab.ASK_TIMER, 4);
        lab.went(1, "ask 1 to 255 from 16");
    }

    /** In a tick the ask timer comes first: what a timer sends at its end finds it at 0 already. */
    private static void askTimerIsDownBeforeTimersOfSockets() {
        Lab lab = new Lab(due);
        lab.x.connect(0, 1);
        lab.went(1, "ask 1 to 255 from 16");
        lab.x.tick(4);
        lab.went(1, "ask 1 to 255 from 16");
        lab.hostIs(0, Lab.LINE, 2);
        lab.hostIs(0, Lab.ASK_TIMER, 4);
    }

    /** "is known for 30 ticks from then on" and "(at 0 it is not known)" */
    private static void knownForThirtyTicks() {
        Lab lab = new Lab(due).meet();
        lab.hostIs(0, Lab.KNOWN, 30);
        lab.hostIs(1, Lab.KNOWN, 30);
        lab.x.tick(29);
        lab.hostIs(0, Lab.KNOWN, 1);
        lab.x.ping(0, 1, 0);
        lab.went(1, "echo 8 token 1 size 5");
        lab.x.tick(1);
        lab.hostIs(0, Lab.KNOWN, 0);
        lab.hostIs(0, Lab.STATION, 17);
        lab.x.ping(0, 2, 0);
        lab.went(1, "ask 1 to 255 from 16");
        lab.hostIs(0, Lab.LINE, 1);
        lab.x.tick(1);
        lab.hostIs(0, Lab.KNOWN, 0);
    }

    private static void knownTimeIsDownBeforeTimersOfSockets() {
        Lab lab = new Lab(due).meet();
        lab.x.tick(26);
        lab.x.connect(0, 1);
        lab.x.connect(1, 1);
        lab.drop(0);
        lab.drop(1);
        lab.x.tick(4);
        lab.hostIs(0, Lab.KNOWN, 0);
        lab.hostIs(0, Lab.LINE, 1);
        lab.hostIs(1, Lab.LINE, 1);
        lab.went(1, "ask 1 to 255 from 16");
        lab.went(0, "ask 1 to 255 from 17");
    }

    /** "if it was a question, an answer goes to that station; then the packets of the line go, in order" */
    private static void answerBeforeTheLine() {
        Lab lab = new Lab(due);
        lab.x.ping(0, 1, 0);
        lab.x.ping(0, 2, 0);
        lab.drop(1);
        lab.x.ping(1, 9, 0);
        lab.x.carry(0);
        lab.went(1, "ask 2 to 17 from 16; echo 8 token 1 size 5; echo 8 token 2 size 5");
        lab.hostIs(0, Lab.LINE, 0);
    }

    private static void anAnswerIsNotAnswered() {
        Lab lab = new Lab(due);
        lab.x.ping(0, 1, 0);
        lab.x.carry(1);
        lab.x.disturb(0, 2);
        lab.x.carry(0);
        lab.went(1, "echo 8 token 1 size 5");
        lab.x.carry(0);
        lab.went(1, "");
        lab.hostIs(0, Lab.KNOWN, 30);
    }

    /** Each such ASK counts from then on, question or answer. */
    private static void knownAnew() {
        for (int kind = 1; kind <= 2; kind++) {
            Lab lab = new Lab(due);
            lab.x.ping(0, 0, 0);
            lab.x.disturb(1, 2);
            lab.x.carry(1);
            lab.x.tick(20);
            lab.hostIs(1, Lab.KNOWN, 10);
            lab.rewrite(1, 17, 16, 6, kind, 16, 1, 2);
            lab.x.carry(1);
            lab.hostIs(1, Lab.KNOWN, 30);
            lab.x.tick(29);
            lab.hostIs(1, Lab.KNOWN, 1);
        }
        // When it is not known any more, an ASK makes it known again.
        Lab lab = new Lab(due).meet();
        lab.x.tick(30);
        lab.x.ping(1, 3, 0);
        lab.x.carry(0);
        lab.hostIs(0, Lab.KNOWN, 30);
        lab.hostIs(1, Lab.KNOWN, 0);
    }

    /** "the sender's station, as it is said in ASK, is known" */
    private static void stationAsItIsSaid() {
        for (int said : new int[] {0, 17, 99, 255}) {
            Lab lab = new Lab(due);
            lab.x.ping(0, 0, 0);
            lab.rewrite(1, 17, 200, 6, 1, said, 1, 2);
            lab.x.carry(1);
            lab.hostIs(1, Lab.STATION, said);
            lab.hostIs(1, Lab.KNOWN, 30);
            lab.frameIs(0, 0, said, 17, 6, 2, 17, 2, 1);
            lab.drop(0);
            lab.x.ping(1, 3, 0);
            due.is("to the station", lab.x.octet(0, 0, 0), said);
            due.is("from the own one", lab.x.octet(0, 0, 1), 17);
            due.is("it arrives", lab.x.carry(0), 8);
            // Host 0 takes it only if it goes to any.
            lab.hostIs(0, Lab.LINE, said == 255 ? 2 : 1);
            lab.x.tick(30);
            lab.hostIs(1, Lab.STATION, said);
            lab.hostIs(1, Lab.KNOWN, 0);
        }
    }

    /** "An ASK frame whose sender's address is the other's and which means this host's address"; 1 or 2 */
    private static void wrongAsks() {
        int[][] wrong = {{18, 16, 6, 1, 16, 1, 2}, {16, 16, 6, 1, 16, 1, 2}, {254, 16, 6, 1, 16, 1, 2},
            {17, 16, 6, 0, 16, 1, 2}, {17, 16, 6, 3, 16, 1, 2}, {17, 16, 6, 129, 16, 1, 2}, {17, 16, 6, 1, 16, 2, 2},
            {17, 16, 6, 1, 16, 0, 2}, {17, 16, 6, 1, 16, 3, 2}, {17, 16, 6, 1, 16, 1, 1}, {17, 16, 6, 1, 16, 1, 0},
            {17, 16, 6, 1, 16, 1, 3}, {17, 16, 6, 2, 16, 2, 1}, {17, 16, 6, 2, 16, 1, 255}};
        for (int[] frame : wrong) {
            Lab lab = new Lab(due);
            lab.x.ping(0, 0, 0);
            lab.x.ping(1, 0, 0);
            lab.drop(0);
            lab.rewrite(1, frame);
            due.is("the type", lab.x.carry(1), 6);
            lab.hostIs(1, Lab.KNOWN, 0);
            lab.hostIs(1, Lab.STATION, 0);
            lab.hostIs(1, Lab.LINE, 1);
            lab.went(0, "");
        }
    }

    /** "just these four bytes" */
    private static void askOfMoreThanFourBytes() {
        for (int size : new int[] {14, 18, 37}) {
            Lab lab = new Lab(due).meet();
            lab.x.tick(10);
            int[] longAsk = new int[size];
            System.arraycopy(new int[] {16, 17, 6, 1, 99, 2, 1}, 0, longAsk, 0, 7);
            lab.arrive(0, longAsk);
            lab.hostIs(0, Lab.STATION, 17);
            lab.hostIs(0, Lab.KNOWN, 20);
            lab.went(1, "");
        }
    }
}
