/** Terms: frames on the way, which of them a host takes, and the check of a row. */
public final class FrameTest {
    private static final int[] ANSWER = {0, 0, 0, 0, 77, 1, 2};
    private static final Due due = new Due();

    public static void main(String[] args) {
        for (int h = 0; h < 2; h++) {
            sixteenthAndSeventeenthFrame(h);
        }
        secondPacketIsTheSeventeenth();
        waysAreApart();
        lostQuestionCountsAsAsked();
        lostAnswerAndLine();
        inOrder();
        highByteFirst();
        lastByteAloneIsTheHighOne();
        sumsAtTheFold();
        zerosHaveNoRightCheck();
        stationsThatAreTaken();
        typesThatAreTaken();
        stationFromWhichDoesNotMatter();
        due.end();
    }

    /** "to each host at most 16 are on the way, in order; one that is sent when there are 16 is lost" */
    private static void sixteenthAndSeventeenthFrame(int h) {
        Lab lab = new Lab(due).meet();
        for (int i = 1; i <= 15; i++) {
            lab.x.ping(1 - h, i, 0);
        }
        lab.flying(h, 15);
        due.yes("the sixteenth", lab.x.ping(1 - h, 16, 0));
        lab.flying(h, 16);
        due.is("the sixteenth is the last", lab.x.octet(h, 15, 17), 16);
        due.yes("the seventeenth is sent", lab.x.ping(1 - h, 17, 0));
        lab.flying(h, 16);
        due.is("and lost", lab.x.octet(h, 15, 17), 16);
        due.is("the first is still the first", lab.x.octet(h, 0, 17), 1);
        due.is("there is no seventeenth", lab.x.octet(h, 16, -1), -1);
        lab.x.disturb(h, 0);
        lab.x.ping(1 - h, 18, 0);
        lab.flying(h, 16);
        due.is("there is place for one again", lab.x.octet(h, 15, 17), 18);
    }

    private static void secondPacketIsTheSeventeenth() {
        Lab lab = new Lab(due).meet();
        for (int i = 0; i < 15; i++) {
            lab.x.ping(0, 1, 0);
        }
        lab.x.ping(0, 9, 20);
        lab.flying(1, 16);
        due.is("the first piece", lab.x.octet(1, 15, 5), 128);
        lab.x.ping(0, 9, 20);
        lab.flying(1, 16);
        lab.hostIs(0, Lab.IDENT, 18);
    }

    private static void waysAreApart() {
        Lab lab = new Lab(due).meet();
        for (int i = 0; i < 17; i++) {
            lab.x.ping(0, 1, 0);
        }
        lab.flying(1, 16);
        lab.flying(0, 0);
        for (int i = 0; i < 17; i++) {
            lab.x.carry(1);
        }
        lab.flying(1, 0);
        lab.flying(0, 16);
    }

    /** A question is a frame too: it is lost when there are 16, but it went. */
    private static void lostQuestionCountsAsAsked() {
        Lab lab = new Lab(due).meet();
        for (int i = 0; i < 16; i++) {
            lab.x.ping(0, 1, 0);
        }
        lab.x.tick(30);
        lab.x.ping(0, 2, 0);
        lab.flying(1, 16);
        lab.hostIs(0, Lab.ASK_TIMER, 4);
        lab.hostIs(0, Lab.LINE, 1);
        lab.drop(1);
        lab.x.tick(3);
        lab.x.ping(0, 3, 0);
        lab.went(1, "");
        lab.x.tick(1);
        lab.x.ping(0, 4, 0);
        lab.went(1, "ask 1 to 255 from 16");
    }

    private static void lostAnswerAndLine() {
        Lab lab = new Lab(due).meet();
        for (int i = 0; i < 14; i++) {
            lab.x.ping(0, 1, 0);
        }
        lab.x.tick(30);
        lab.x.ping(0, 21, 0);
        lab.x.ping(0, 22, 0);
        lab.x.ping(1, 5, 0);
        lab.flying(1, 15);
        lab.hostIs(0, Lab.LINE, 2);
        // The question of host 1 arrives: of its answer and the two of the line only one has place.
        lab.x.carry(0);
        lab.flying(1, 16);
        due.is("the answer comes first", lab.x.octet(1, 15, 2), 6);
        lab.hostIs(0, Lab.LINE, 0);
        lab.hostIs(0, Lab.KNOWN, 30);
    }

    private static void inOrder() {
        Lab lab = new Lab(due).meet();
        for (int i = 1; i <= 16; i++) {
            lab.x.ping(0, i, 0);
        }
        for (int i = 1; i <= 16; i++) {
            due.is("the next one", lab.x.octet(1, 0, 17), i);
            lab.x.carry(1);
            lab.flying(1, 16 - i);
        }
        for (int i = 1; i <= 16; i++) {
            lab.x.carry(0);
            lab.hostIs(0, Lab.TOKEN, i);
        }
    }

    /** "Numbers of two bytes: the high one first." */
    private static void highByteFirst() {
        Lab lab = new Lab(due).open();
        lab.x.send(1, 1, 5);
        due.is("SEQ 1101", lab.x.octet(0, 0, 15) * 1000 + lab.x.octet(0, 0, 16), 4 * 1000 + 77);
        due.is("ACK number 101", lab.x.octet(0, 0, 17) * 1000 + lab.x.octet(0, 0, 18), 101);
        lab.drop(0);
        lab = new Lab(due).meet();
        lab.x.ping(0, 0, 0);
        // 8, 0 and zeros: 65535 less 2048.
        due.is("the echo's checksum, high", lab.x.octet(1, 0, 15), 247);
        due.is("the echo's checksum, low", lab.x.octet(1, 0, 16), 255);
    }

    /** "a last byte alone counts as the high one" */
    private static void lastByteAloneIsTheHighOne() {
        Lab lab = new Lab(due).meet();
        lab.x.ping(0, 3, 0);
        // 8, 0; 3 alone: 65535 less 2048 + 768.
        due.is("high", lab.x.octet(1, 0, 15), 244);
        due.is("low", lab.x.octet(1, 0, 16), 255);
        lab.drop(1);
        lab.x.ping(0, 3, 1);
        // 8, 0; 3, 3: 65535 less 2048 + 771.
        due.is("high", lab.x.octet(1, 0, 15), 244);
        due.is("low", lab.x.octet(1, 0, 16), 252);
        lab.drop(1);
        // Whoever counts it as the low one has the check 0 here.
        lab.arrive(0, wholeEcho(0, 255, 255 - 78, 78));
        lab.hostIs(0, Lab.PONGS, 1);
        lab.arrive(0, wholeEcho(0, 255 - 78, 255, 78));
        lab.hostIs(0, Lab.PONGS, 2);
    }

    /** An echo of kind, checksum bytes and token alone, as it is said: only the packet's checksum is made. */
    private static int[] wholeEcho(int kind, int high, int low, int token) {
        int[] f = Lab.packet(0, 9, 0, 1, kind, 0, 0, 0, token);
        f[15] = high;
        f[16] = low;
        return f;
    }

    /** "as long as it is above 65535 its upper part (/ 65536) added to the rest; then 65535 less that" */
    private static void sumsAtTheFold() {
        // The answers' rows, token and data alone adding up to 65534, 65535, 65536, 131071 (which needs two rounds).
        int[][] data = {{255, 254}, {255, 255}, {255, 255, 0, 1}, {255, 255, 255, 255, 0, 1}};
        int[] checks = {1, 0, 65534, 65534};
        Lab lab = new Lab(due).meet();
        for (int i = 0; i < data.length; i++) {
            lab.arrive(1, Lab.packet(1, 9, 0, 1, Model.join(new int[] {8, 0, 0, 0}, data[i])));
            due.is("checksum", lab.x.octet(0, 0, 15) * 256 + lab.x.octet(0, 0, 16), checks[i]);
            lab.x.carry(0);
            lab.hostIs(0, Lab.PONGS, 2 + i);
            lab.hostIs(0, Lab.TOKEN, 255);
        }
    }

    /** A row of zeros has the check 65535, which is not 0. */
    private static void zerosHaveNoRightCheck() {
        Lab lab = new Lab(due).meet();
        lab.x.ping(0, 9, 0);
        lab.carryAll();
        lab.hostIs(0, Lab.PONGS, 2);
        lab.arrive(0, wholeEcho(0, 0, 0, 0));
        lab.hostIs(0, Lab.PONGS, 2);
        lab.hostIs(0, Lab.TOKEN, 9);
        lab.arrive(0, wholeEcho(0, 255, 255, 0));
        lab.hostIs(0, Lab.PONGS, 3);
        lab.hostIs(0, Lab.TOKEN, 0);
    }

    /** "A host takes frames to its station or 255" */
    private static void stationsThatAreTaken() {
        for (int h = 0; h < 2; h++) {
            Lab lab = new Lab(due).meet();
            int pongs = lab.x.host(h, Lab.PONGS);
            for (int station : new int[] {0, 1, 15, 17 - h, 18, 254}) {
                lab.arrive(h, toStation(h, station));
                lab.hostIs(h, Lab.PONGS, pongs);
            }
            lab.arrive(h, toStation(h, 16 + h));
            lab.hostIs(h, Lab.PONGS, pongs + 1);
            lab.arrive(h, toStation(h, 255));
            lab.hostIs(h, Lab.PONGS, pongs + 2);
        }
    }

    private static int[] toStation(int h, int station) {
        int[] f = Lab.packet(h, 9, 0, 1, ANSWER);
        f[0] = station;
        return f;
    }

    /** "of these types, that are whole as said here; all else is dropped" */
    private static void typesThatAreTaken() {
        Lab lab = new Lab(due).meet();
        for (int type : new int[] {0, 1, 5, 6, 7, 9, 10, 136, 255}) {
            int[] f = Lab.packet(0, 9, 0, 1, ANSWER);
            f[2] = type;
            lab.arrive(0, f);
        }
        lab.hostIs(0, Lab.PONGS, 1);
        lab.went(1, "");
        for (int type : new int[] {0, 5, 7, 8, 134, 255}) {
            lab = new Lab(due);
            lab.x.ping(0, 0, 0);
            lab.rewrite(1, 255, 16, type, 1, 16, 1, 2);
            due.is("the type", lab.x.carry(1), type);
            lab.hostIs(1, Lab.KNOWN, 0);
            lab.flying(0, 0);
            lab.flying(1, 0);
        }
    }

    /** "(From which station a frame is does not matter.)" */
    private static void stationFromWhichDoesNotMatter() {
        Lab lab = new Lab(due).meet();
        for (int from : new int[] {0, 16, 18, 255}) {
            int[] f = Lab.packet(0, 9, 0, 1, ANSWER);
            f[1] = from;
            lab.arrive(0, f);
        }
        lab.hostIs(0, Lab.PONGS, 5);
        lab.hostIs(0, Lab.STATION, 17);
        lab = new Lab(due);
        lab.x.ping(0, 0, 0);
        lab.rewrite(1, 255, 200, 6, 1, 16, 1, 2);
        lab.x.carry(1);
        lab.hostIs(1, Lab.STATION, 16);
        due.is("the answer goes to the station in ASK", lab.x.octet(0, 0, 0), 16);
    }
}
