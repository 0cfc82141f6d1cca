/** Promise 8: ping, and the term echo. */
public final class PingTest {
    private static final int[] ANSWER = {0, 0, 0, 0, 77, 1, 2};
    private static final Due due = new Due();

    public static void main(String[] args) {
        hostsThatAreNone();
        tokenAtItsEdges();
        sizeAtItsEdges();
        wholeFrames();
        dataGoRound();
        everySizeComesBack();
        pongsAndToken();
        fiveBytesAtLeast();
        fourBytesWithRightCheck();
        otherKindsAndSecondBytes();
        wrongChecks();
        dataDoNotMatter();
        longestQuestionIsAnswered();
        answersAreNotAnswered();
        due.end();
    }

    private static void hostsThatAreNone() {
        Lab lab = new Lab(due).meet();
        String before = lab.all();
        for (int h : new int[] {-1, 2, Integer.MIN_VALUE, Integer.MAX_VALUE}) {
            due.no("host " + h, lab.x.ping(h, 0, 0));
        }
        due.same("all", lab.all(), before);
    }

    /** "token is not 0 .. 255" */
    private static void tokenAtItsEdges() {
        Lab lab = new Lab(due).meet();
        String before = lab.all();
        for (int token : new int[] {-1, 256, Integer.MIN_VALUE, Integer.MAX_VALUE}) {
            due.no("token " + token, lab.x.ping(0, token, 0));
        }
        due.same("all", lab.all(), before);
        due.yes("token 255", lab.x.ping(0, 255, 0));
        lab.carryAll();
        lab.hostIs(0, Lab.TOKEN, 255);
        due.yes("token 0", lab.x.ping(0, 0, 0));
        lab.carryAll();
        lab.hostIs(0, Lab.TOKEN, 0);
        lab.hostIs(0, Lab.PONGS, 3);
    }

    /** "n is not 0 .. 43" */
    private static void sizeAtItsEdges() {
        Lab lab = new Lab(due).meet();
        String before = lab.all();
        for (int n : new int[] {-1, 44, Integer.MIN_VALUE, Integer.MAX_VALUE}) {
            due.no("n " + n, lab.x.ping(0, 0, n));
        }
        due.same("all", lab.all(), before);
        due.yes("n 0", lab.x.ping(0, 1, 0));
        lab.went(1, "echo 8 token 1 size 5");
        due.yes("n 43", lab.x.ping(1, 1, 43));
        due.is("its last byte", lab.x.octet(0, 1, 36), 43);
        lab.went(0, "piece 128 of 1 size 24; piece 6 of 1 size 24");
    }

    private static void wholeFrames() {
        Lab lab = new Lab(due).meet();
        lab.x.ping(0, 254, 4);
        int[] want = {17, 16, 8, 19, 1, 0, 64, 1, 0, 0, 0, 1, 2, 8, 0, 0, 0, 254, 254, 255, 0, 1};
        Frames.seal(want);
        lab.frameIs(1, 0, want);
        lab.x.carry(1);
        lab.flying(0, 1);
        int[] back = {16, 17, 8, 19, 1, 0, 64, 1, 0, 0, 0, 2, 1, 0, 0, 0, 0, 254, 254, 255, 0, 1};
        Frames.seal(back);
        lab.frameIs(0, 0, back);
        lab.x.carry(0);
        lab.hostIs(0, Lab.PONGS, 2);
        lab.hostIs(0, Lab.TOKEN, 254);
        lab.flying(1, 0);
    }

    /** "byte i being (token + i) & 255" */
    private static void dataGoRound() {
        Lab lab = new Lab(due).meet();
        lab.x.ping(0, 240, 43);
        for (int i = 0; i < 19; i++) {
            due.is("byte " + i, lab.x.octet(1, 0, 18 + i), (240 + i) & 255);
        }
        for (int i = 19; i < 43; i++) {
            due.is("byte " + i, lab.x.octet(1, 1, 13 + i - 19), (240 + i) & 255);
        }
    }

    private static void everySizeComesBack() {
        for (int token : new int[] {0, 127, 200, 255}) {
            for (int from = 0; from <= 43; from += 11) {
                Lab lab = new Lab(due).meet();
                for (int n = from; n < from + 11 && n <= 43; n++) {
                    lab.x.ping(0, token, n);
                    lab.carryAll();
                    lab.hostIs(0, Lab.PONGS, n - from + 2);
                }
                lab.hostIs(0, Lab.TOKEN, token);
            }
        }
    }

    /** "the host's PONGS grow by 1, its TOKEN is that of the message"; "NONE before the first answer" */
    private static void pongsAndToken() {
        Lab lab = new Lab(due).meet();
        lab.hostIs(0, Lab.PONGS, 1);
        lab.hostIs(0, Lab.TOKEN, 0);
        lab.hostIs(1, Lab.PONGS, 0);
        lab.hostIs(1, Lab.TOKEN, -1);
        lab.x.ping(1, 9, 0);
        lab.x.carry(0);
        lab.hostIs(1, Lab.TOKEN, -1);
        // An answer that comes twice counts twice.
        lab.x.disturb(1, 2);
        lab.x.carry(1);
        lab.hostIs(1, Lab.PONGS, 1);
        lab.hostIs(1, Lab.TOKEN, 9);
        lab.x.carry(1);
        lab.hostIs(1, Lab.PONGS, 2);
        lab.hostIs(0, Lab.TOKEN, 0);
    }

    /** "A question of at least 5 bytes with a right check is answered" */
    private static void fiveBytesAtLeast() {
        Lab lab = new Lab(due).meet();
        lab.arrive(0, Lab.packet(0, 9, 0, 1, 8, 0, 0, 0, 3));
        lab.went(1, "echo 0 token 3 size 5");
        lab.arrive(0, Lab.packet(0, 9, 0, 1, 0, 0, 0, 0, 3));
        lab.hostIs(0, Lab.PONGS, 2);
    }

    private static void fourBytesWithRightCheck() {
        Lab lab = new Lab(due).meet();
        lab.arrive(0, Lab.packet(0, 9, 0, 1, 8, 0, 247, 255));
        lab.arrive(0, Lab.packet(0, 9, 0, 1, 0, 0, 255, 255));
        lab.arrive(0, Lab.packet(0, 9, 0, 1, 0, 0, 255));
        lab.arrive(0, Lab.packet(0, 9, 0, 1, 8));
        lab.hostIs(0, Lab.PONGS, 1);
        lab.hostIs(0, Lab.TOKEN, 0);
        lab.went(1, "");
    }

    /** "Others, and those whose second byte is not 0, are dropped." */
    private static void otherKindsAndSecondBytes() {
        Lab lab = new Lab(due).meet();
        for (int kind : new int[] {1, 7, 9, 128, 136, 255}) {
            lab.arrive(0, Lab.packet(0, 9, 0, 1, kind, 0, 0, 0, 78));
        }
        for (int second : new int[] {1, 255}) {
            lab.arrive(0, Lab.packet(0, 9, 0, 1, 0, second, 0, 0, 78));
            lab.arrive(0, Lab.packet(0, 9, 0, 1, 8, second, 0, 0, 78));
        }
        lab.hostIs(0, Lab.PONGS, 1);
        lab.hostIs(0, Lab.TOKEN, 0);
        lab.went(1, "");
    }

    private static void wrongChecks() {
        for (int kind = 0; kind <= 8; kind += 8) {
            Lab lab = new Lab(due).meet();
            for (int at = 13; at < 20; at++) {
                int[] f = Lab.packet(0, 9, 0, 1, kind, 0, 0, 0, 78, 1, 2);
                f[at] ^= 4;
                lab.arrive(0, f);
            }
            lab.hostIs(0, Lab.PONGS, 1);
            lab.hostIs(0, Lab.TOKEN, 0);
            lab.went(1, "");
        }
    }

    /** What the data are does not matter: they come back as they are, with a checksum of their own. */
    private static void dataDoNotMatter() {
        Lab lab = new Lab(due).meet();
        lab.arrive(0, Lab.packet(0, 9, 0, 1, 8, 0, 0, 0, 1, 99, 0, 255));
        int[] want = Lab.packet(1, 1, 0, 1, 0, 0, 0, 0, 1, 99, 0, 255);
        lab.frameIs(1, 0, want);
        lab.arrive(0, Lab.packet(0, 9, 0, 1, ANSWER));
        lab.hostIs(0, Lab.TOKEN, 77);
    }

    private static void longestQuestionIsAnswered() {
        Lab lab = new Lab(due).meet();
        int[] most = Model.join(new int[] {8, 0, 0, 0, 44}, Lab.bytes(90, 43));
        Frames.putPair(most, 2, Model.check(most));
        lab.twoPackets(0, 1, most);
        most[0] = 0;
        Frames.putPair(most, 2, 0);
        Frames.putPair(most, 2, Model.check(most));
        lab.flying(1, 2);
        lab.frameIs(1, 0, Lab.packet(1, 1, 128, 1, Model.part(most, 0, 24)));
        lab.frameIs(1, 1, Lab.packet(1, 1, 6, 1, Model.part(most, 24, 48)));
    }

    private static void answersAreNotAnswered() {
        Lab lab = new Lab(due).meet();
        lab.arrive(1, Lab.packet(1, 9, 0, 1, ANSWER));
        lab.hostIs(1, Lab.PONGS, 1);
        lab.went(0, "");
    }
}
