/** Promise 8: ping, with asking for stations, the line, packets put together, and echoes. */
public final class PingTest {
    private static final int[] ANSWER = {0, 0, 0, 0, 77, 1, 2};
    private static final Due due = new Due();

    public static void main(String[] args) {
        refusedPings();
        echoFrame();
        longEcho();
        echoesThatAreDropped();
        oddSizesHaveRightChecks();
        askAndAnswer();
        askTimer();
        lineOfFour();
        wrongAsks();
        stationAsItIsSaid();
        wrongPackets();
        bytesThatDoNotMatter();
        piecesInAnyOrder();
        bytesThatAreThereStay();
        latestWholeSizeCounts();
        piecesThatAreTooFar();
        twoSlots();
        protocolsAreApart();
        identGoesRound();
        due.end();
    }

    private static void refusedPings() {
        WireHosts x = new WireHosts();
        due.no("host -1", x.ping(-1, 0, 0));
        due.no("host 2", x.ping(2, 0, 0));
        due.no("token -1", x.ping(0, -1, 0));
        due.no("token 256", x.ping(0, 256, 0));
        due.no("n -1", x.ping(0, 0, -1));
        due.no("n 44", x.ping(0, 0, 44));
        due.is("nothing goes", x.flying(0) + x.flying(1), 0);
        due.is("no ident is used", x.host(0, 5), 0);
        due.yes("all at the low edge", x.ping(0, 0, 0));
        due.yes("all at the high edge", x.ping(1, 255, 43));
    }

    private static void echoFrame() {
        Lab lab = new Lab(due).meet();
        lab.x.ping(0, 254, 4);
        int[] want = {17, 16, 8, 19, 1, 0, 64, 1, 0, 0, 0, 1, 2, 8, 0, 0, 0, 254, 254, 255, 0, 1};
        Frames.seal(want);
        due.same("the frame", java.util.Arrays.toString(Frames.read(lab.x, 1, 0)), java.util.Arrays.toString(want));
        lab.x.carry(1);
        int[] back = {16, 17, 8, 19, 1, 0, 64, 1, 0, 0, 0, 2, 1, 0, 0, 0, 0, 254, 254, 255, 0, 1};
        Frames.seal(back);
        due.same("its answer", java.util.Arrays.toString(Frames.read(lab.x, 0, 0)), java.util.Arrays.toString(back));
        lab.x.carry(0);
        lab.hostIs(0, 2, 2);
        lab.hostIs(0, 3, 254);
        lab.hostIs(1, 2, 0);
        lab.hostIs(1, 3, -1);
        lab.x.ping(1, 9, 0);
        lab.carryAll();
        lab.hostIs(1, 2, 1);
        lab.hostIs(1, 3, 9);
        lab.hostIs(0, 3, 254);
    }

    private static void longEcho() {
        Lab lab = new Lab(due).meet();
        lab.x.ping(0, 5, 19);
        lab.went(1, "echo 8 token 5 size 24");
        lab.x.ping(0, 5, 20);
        lab.went(1, "piece 128 of 2 size 24; piece 6 of 2 size 1");
        lab.x.ping(0, 5, 43);
        due.is("the last byte", lab.x.octet(1, 1, 36), 47);
        lab.carryAll();
        lab.hostIs(0, 2, 2);
        lab.hostIs(0, 3, 5);
    }

    private static void echoesThatAreDropped() {
        Lab lab = new Lab(due).meet();
        lab.arrive(0, Lab.packet(0, 9, 0, 1, ANSWER));
        lab.hostIs(0, 2, 2);
        lab.hostIs(0, 3, 77);
        lab.arrive(0, Lab.packet(0, 9, 0, 1, 0, 1, 0, 0, 78));
        lab.arrive(0, Lab.packet(0, 9, 0, 1, 1, 0, 0, 0, 78));
        lab.arrive(0, Lab.packet(0, 9, 0, 1, 8, 1, 0, 0, 78));
        lab.arrive(0, Lab.packet(0, 9, 0, 2, 0, 0, 0, 0, 78));
        int[] wrongCheck = Lab.packet(0, 9, 0, 1, 0, 0, 0, 0, 78);
        wrongCheck[16] ^= 1;
        lab.arrive(0, wrongCheck);
        wrongCheck[13] = 8;
        lab.arrive(0, wrongCheck);
        // Four bytes whose check is right: no token, so no echo.
        lab.arrive(0, Lab.packet(0, 9, 0, 1, 0, 0, 255, 255));
        lab.arrive(0, Lab.packet(0, 9, 0, 1, 8, 0, 247, 255));
        lab.hostIs(0, 2, 2);
        lab.hostIs(0, 3, 77);
        lab.went(1, "");
        // What the data are does not matter.
        lab.arrive(0, Lab.packet(0, 9, 0, 1, 8, 0, 0, 0, 1, 99));
        due.is("data come back", lab.x.octet(1, 0, 18), 99);
        lab.went(1, "echo 0 token 1 size 6");
    }

    private static void oddSizesHaveRightChecks() {
        Lab lab = new Lab(due).meet();
        for (int n = 0; n <= 43; n++) {
            lab.x.ping(0, 200, n);
            lab.carryAll();
            lab.hostIs(0, 2, n + 2);
        }
    }

    private static void askAndAnswer() {
        Lab lab = new Lab(due);
        lab.x.ping(0, 1, 0);
        lab.hostIs(0, 1, 1);
        lab.hostIs(0, 6, 4);
        due.same("the question", java.util.Arrays.toString(Frames.read(lab.x, 1, 0)), "[255, 16, 6, 1, 16, 1, 2]");
        due.is("carry tells the type", lab.x.carry(1), 6);
        lab.hostIs(1, 0, 30);
        lab.hostIs(1, 7, 16);
        due.same("the answer", java.util.Arrays.toString(Frames.read(lab.x, 0, 0)), "[16, 17, 6, 2, 17, 2, 1]");
        lab.x.tick(3);
        lab.x.carry(0);
        lab.hostIs(0, 0, 30);
        lab.hostIs(0, 7, 17);
        lab.hostIs(0, 1, 0);
        lab.hostIs(1, 0, 27);
        lab.went(0, "");
        lab.went(1, "echo 8 token 1 size 5");
    }

    private static void askTimer() {
        Lab lab = new Lab(due);
        lab.x.ping(0, 1, 0);
        lab.drop(1);
        lab.x.ping(0, 2, 0);
        lab.went(1, "");
        lab.x.tick(3);
        lab.hostIs(0, 6, 1);
        lab.x.ping(0, 3, 0);
        lab.went(1, "");
        lab.x.tick(1);
        lab.hostIs(0, 6, 0);
        lab.went(1, "");
        lab.x.ping(0, 4, 0);
        lab.went(1, "ask 1 to 255 from 16");
        lab.hostIs(0, 6, 4);
        lab.hostIs(1, 6, 0);
    }

    private static void lineOfFour() {
        Lab lab = new Lab(due);
        lab.x.ping(0, 1, 0);
        lab.x.ping(0, 2, 0);
        lab.x.ping(0, 3, 0);
        lab.x.ping(0, 4, 20);
        lab.hostIs(0, 1, 4);
        lab.hostIs(0, 5, 4);
        lab.x.tick(4);
        lab.x.ping(0, 5, 0);
        lab.hostIs(0, 1, 4);
        lab.hostIs(0, 5, 5);
        // A packet that finds the line full is lost, but its question goes.
        lab.went(1, "ask 1 to 255 from 16; ask 1 to 255 from 16");
        lab.x.ping(1, 9, 0);
        lab.x.carry(0);
        lab.went(1, "ask 2 to 17 from 16; echo 8 token 1 size 5; echo 8 token 2 size 5; echo 8 token 3 size 5; "
                + "piece 128 of 3 size 24");
        lab.hostIs(0, 1, 0);
    }

    private static void wrongAsks() {
        int[][] wrong = {{18, 16, 6, 1, 16, 1, 2}, {17, 16, 7, 1, 16, 1, 2}, {17, 16, 6, 0, 16, 1, 2},
            {17, 16, 6, 3, 16, 1, 2}, {17, 16, 6, 1, 16, 2, 2}, {17, 16, 6, 1, 16, 1, 1}, {17, 16, 8, 1, 16, 1, 2},
            {16, 16, 6, 1, 16, 1, 2}};
        for (int[] frame : wrong) {
            Lab lab = new Lab(due);
            lab.x.ping(0, 0, 0);
            lab.rewrite(1, frame);
            due.is("the type", lab.x.carry(1), frame[2]);
            lab.hostIs(1, 0, 0);
            lab.hostIs(1, 7, 0);
            lab.went(0, "");
        }
        Lab lab = new Lab(due).meet();
        lab.x.tick(10);
        int[] longAsk = new int[18];
        System.arraycopy(new int[] {16, 17, 6, 1, 99, 2, 1}, 0, longAsk, 0, 7);
        lab.arrive(0, longAsk);
        lab.hostIs(0, 7, 17);
        lab.hostIs(0, 0, 20);
        // An ask that became a packet on the way is no packet.
        lab.x.tick(20);
        lab.x.ping(1, 0, 0);
        lab.rewrite(0, 16, 17, 8, 4, 17, 2, 1);
        due.is("the type", lab.x.carry(0), 8);
        lab.hostIs(0, 2, 1);
        lab.went(1, "");
    }

    private static void stationAsItIsSaid() {
        Lab lab = new Lab(due);
        lab.x.ping(0, 0, 0);
        lab.rewrite(1, 17, 200, 6, 1, 99, 1, 2);
        lab.x.carry(1);
        lab.hostIs(1, 7, 99);
        lab.hostIs(1, 0, 30);
        lab.went(0, "ask 2 to 99 from 17");
        lab.x.ping(1, 3, 0);
        due.is("to the station", lab.x.octet(0, 0, 0), 99);
        due.is("from the own one", lab.x.octet(0, 0, 1), 17);
        due.is("another's frame is dropped", lab.x.carry(0), 8);
        lab.went(1, "");
        // An answer is not answered; it makes known anew.
        lab.x.tick(5);
        lab.x.ping(0, 0, 0);
        lab.rewrite(1, 255, 16, 6, 2, 16, 1, 2);
        lab.x.carry(1);
        lab.hostIs(1, 7, 16);
        lab.hostIs(1, 0, 30);
        lab.went(0, "");
        lab.x.tick(29);
        lab.hostIs(1, 0, 1);
        lab.x.tick(1);
        lab.hostIs(1, 0, 0);
        lab.hostIs(1, 7, 16);
        lab.x.ping(1, 3, 0);
        lab.went(0, "ask 1 to 255 from 17");
    }

    private static void wrongPackets() {
        int[] right = Lab.packet(0, 9, 0, 1, ANSWER);
        int[][] changes = {{0, 17}, {0, 18}, {2, 9}, {3, 16}, {3, 18}, {11, 1}, {11, 3}, {12, 2}, {12, 0}};
        Lab lab = new Lab(due).meet();
        for (int[] change : changes) {
            int[] frame = right.clone();
            frame[change[0]] = change[1];
            Frames.seal(frame);
            lab.arrive(0, frame);
            lab.hostIs(0, 2, 1);
        }
        int[] wrongCheck = right.clone();
        wrongCheck[10] ^= 1;
        lab.arrive(0, wrongCheck);
        lab.hostIs(0, 2, 1);
        lab.arrive(0, right);
        lab.hostIs(0, 2, 2);
    }

    private static void bytesThatDoNotMatter() {
        Lab lab = new Lab(due).meet();
        int[] frame = Lab.packet(0, 200, 0, 1, ANSWER);
        frame[0] = 255;
        frame[1] = 3;
        frame[6] = 1;
        frame[8] = 99;
        Frames.seal(frame);
        lab.arrive(0, frame);
        lab.hostIs(0, 2, 2);
        lab.hostIs(0, 3, 77);
        // And what is sent next has nothing of it.
        lab.x.connect(0, 1);
        lab.x.ping(0, 1, 0);
        lab.went(1, "S 100 0 24; echo 8 token 1 size 5");
    }

    /** A right echo answer of 12 bytes, to be cut. */
    private static int[] answer(int token) {
        int[] f = Lab.packet(0, 0, 0, 1, 0, 0, 0, 0, token, 1, 2, 3, 4, 5, 6, 7);
        return Model.part(f, 13, f.length);
    }

    private static int[] piece(int ident, int from, int to, boolean more, int[] message) {
        return Lab.packet(0, ident, from / 4 + (more ? 128 : 0), 1, Model.part(message, from, to));
    }

    private static void piecesInAnyOrder() {
        int[] m = answer(50);
        Lab lab = new Lab(due).meet();
        lab.arrive(0, piece(7, 8, 12, false, m));
        lab.hostIs(0, 4, 1);
        lab.arrive(0, piece(7, 0, 4, true, m));
        lab.hostIs(0, 4, 1);
        lab.hostIs(0, 2, 1);
        lab.arrive(0, piece(7, 4, 8, true, m));
        lab.hostIs(0, 4, 0);
        lab.hostIs(0, 2, 2);
        lab.hostIs(0, 3, 50);
        // The slot is free again: a piece alone makes nothing.
        lab.arrive(0, piece(7, 4, 8, true, m));
        lab.hostIs(0, 4, 1);
        lab.hostIs(0, 2, 2);
        // A whole packet of the same ident leaves it alone.
        lab.arrive(0, Lab.packet(0, 7, 0, 1, ANSWER));
        lab.hostIs(0, 4, 1);
        lab.hostIs(0, 2, 3);
    }

    private static void bytesThatAreThereStay() {
        int[] m = answer(60);
        int[] other = answer(61);
        Lab lab = new Lab(due).meet();
        lab.arrive(0, piece(7, 0, 8, true, m));
        lab.arrive(0, piece(7, 0, 8, true, other));
        lab.arrive(0, piece(7, 4, 12, false, m));
        lab.hostIs(0, 2, 2);
        lab.hostIs(0, 3, 60);
    }

    private static void latestWholeSizeCounts() {
        int[] m = answer(70);
        Lab lab = new Lab(due).meet();
        lab.arrive(0, Lab.packet(0, 7, 2, 1, 1, 1, 1, 1, 1, 1, 1, 1));
        lab.arrive(0, Lab.packet(0, 7, 1, 1, 70));
        lab.hostIs(0, 4, 1);
        // Five bytes are whole now, whatever lies behind.
        int[] five = Lab.packet(0, 0, 0, 1, 0, 0, 0, 0, 70);
        lab.arrive(0, piece(7, 0, 4, true, Model.part(five, 13, 18)));
        lab.hostIs(0, 4, 0);
        lab.hostIs(0, 2, 2);
        lab.hostIs(0, 3, 70);
        lab.arrive(0, piece(8, 0, 4, true, m));
        lab.hostIs(0, 4, 1);
    }

    private static void piecesThatAreTooFar() {
        Lab lab = new Lab(due).meet();
        lab.arrive(0, Lab.packet(0, 7, 11, 1, 1, 2, 3, 4, 5));
        lab.arrive(0, Lab.packet(0, 7, 127 + 128, 1, 1, 2, 3, 4, 5));
        lab.hostIs(0, 4, 0);
        lab.hostIs(0, 2, 1);
        lab.arrive(0, Lab.packet(0, 7, 11, 1, 1, 2, 3, 4));
        lab.hostIs(0, 4, 1);
    }

    private static void twoSlots() {
        Lab lab = new Lab(due).meet();
        lab.arrive(0, piece(1, 0, 4, true, answer(1)));
        lab.x.tick(1);
        lab.arrive(0, piece(2, 0, 4, true, answer(2)));
        lab.hostIs(0, 4, 2);
        // The first is older: it goes.
        lab.arrive(0, piece(3, 0, 4, true, answer(3)));
        lab.hostIs(0, 4, 2);
        lab.arrive(0, piece(2, 4, 12, false, answer(2)));
        lab.hostIs(0, 3, 2);
        lab.hostIs(0, 4, 1);
        lab.arrive(0, piece(1, 4, 12, false, answer(1)));
        lab.hostIs(0, 3, 2);
        lab.hostIs(0, 4, 2);
        lab.arrive(0, piece(3, 4, 12, false, answer(3)));
        lab.hostIs(0, 3, 3);
        lab.hostIs(0, 4, 1);

        lab = new Lab(due).meet();
        lab.arrive(0, piece(1, 0, 4, true, answer(1)));
        lab.arrive(0, piece(2, 0, 4, true, answer(2)));
        // Equal ages: the first goes.
        lab.arrive(0, piece(3, 0, 4, true, answer(3)));
        lab.arrive(0, piece(2, 4, 12, false, answer(2)));
        lab.hostIs(0, 3, 2);
        // The slot that was emptied began anew: its age is that of its new message.
        lab = new Lab(due).meet();
        lab.arrive(0, piece(1, 0, 4, true, answer(1)));
        lab.x.tick(2);
        lab.arrive(0, piece(2, 0, 4, true, answer(2)));
        lab.x.tick(1);
        lab.arrive(0, piece(3, 0, 4, true, answer(3)));
        lab.arrive(0, piece(4, 0, 4, true, answer(4)));
        lab.arrive(0, piece(3, 4, 12, false, answer(3)));
        lab.hostIs(0, 3, 3);
    }

    private static void protocolsAreApart() {
        Lab lab = new Lab(due).meet();
        lab.arrive(0, piece(7, 0, 4, true, answer(1)));
        lab.arrive(0, Lab.packet(0, 7, 1, 6, 1, 2, 3, 4, 5, 6, 7, 8));
        lab.hostIs(0, 4, 2);
        lab.hostIs(0, 2, 1);
    }

    private static void identGoesRound() {
        Lab lab = new Lab(due).meet();
        for (int i = lab.x.host(0, 5); i < 256; i++) {
            lab.hostIs(0, 5, i);
            lab.x.ping(0, 0, 0);
            due.is("ident", lab.x.octet(1, 0, 4), i);
            lab.drop(1);
        }
        lab.hostIs(0, 5, 0);
    }
}
