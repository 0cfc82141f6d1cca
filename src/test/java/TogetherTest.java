/** Terms: packets put together, in two slots. */
public final class TogetherTest {
    private static final Due due = new Due();

    public static void main(String[] args) {
        offsetZeroAndNoMore();
        piecesInAnyOrder();
        upTo48();
        tooFarChangesNothing();
        identAndProtocol();
        freeSlotsFirst();
        thirdWhenTwoAreInUse();
        equalAges();
        secondIsOlder();
        emptiedSlotHasNothingOfTheOld();
        slotOfAgeTen();
        beganAnewAtAgeZero();
        bytesThatAreThereStay();
        latestWholeSizeCounts();
        lastByteMissing();
        freeWhenTheMessageIsThere();
        hostsAreApart();
        due.end();
    }

    /** A right echo answer of 12 bytes, to be cut. */
    private static int[] answer(int token) {
        int[] f = Lab.packet(0, 0, 0, 1, 0, 0, 0, 0, token, 1, 2, 3, 4, 5, 6, 7);
        return Model.part(f, 13, f.length);
    }

    private static int[] piece(int ident, int from, int to, boolean more, int[] message) {
        return Lab.packet(0, ident, from / 4 + (more ? 128 : 0), 1, Model.part(message, from, to));
    }

    /** Host 0 begins a message with bytes 0 to 3, or ends it with bytes 4 to 11. */
    private static void begin(Lab lab, int ident) {
        lab.arrive(0, piece(ident, 0, 4, true, answer(ident)));
    }

    private static void end(Lab lab, int ident) {
        lab.arrive(0, piece(ident, 4, 12, false, answer(ident)));
    }

    /** So many slots are in use and so many answers came, the latest with this token. */
    private static void slotsPongsToken(Lab lab, int slots, int pongs, int token) {
        lab.hostIs(0, Lab.SLOTS, slots);
        lab.hostIs(0, Lab.PONGS, pongs);
        lab.hostIs(0, Lab.TOKEN, token);
    }

    /** "a packet with offset 0 and no MORE is a message. Else it is a PIECE" */
    private static void offsetZeroAndNoMore() {
        Lab lab = new Lab(due).meet();
        lab.arrive(0, piece(7, 0, 12, false, answer(50)));
        slotsPongsToken(lab, 0, 2, 50);
        // MORE alone makes a piece, an offset alone too.
        lab.arrive(0, piece(7, 0, 12, true, answer(51)));
        slotsPongsToken(lab, 1, 2, 50);
        lab.arrive(0, piece(8, 4, 12, false, answer(52)));
        slotsPongsToken(lab, 2, 2, 50);
        // A message of the same ident leaves the slot alone.
        lab.arrive(0, piece(7, 0, 12, false, answer(53)));
        slotsPongsToken(lab, 2, 3, 53);
        lab.arrive(0, piece(8, 0, 4, true, answer(52)));
        slotsPongsToken(lab, 1, 4, 52);
    }

    private static void piecesInAnyOrder() {
        int[][] orders = {{0, 1, 2}, {0, 2, 1}, {1, 0, 2}, {1, 2, 0}, {2, 0, 1}, {2, 1, 0}};
        for (int[] order : orders) {
            Lab lab = new Lab(due).meet();
            for (int i = 0; i < 3; i++) {
                slotsPongsToken(lab, i == 0 ? 0 : 1, 1, 0);
                lab.arrive(0, piece(7, 4 * order[i], 4 * order[i] + 4, order[i] < 2, answer(50)));
            }
            slotsPongsToken(lab, 0, 2, 50);
        }
    }

    /** "offset + its size must be at most 48" */
    private static void upTo48() {
        int[] offsets = {44, 44, 28, 24};
        int[] sizes = {4, 1, 20, 24};
        for (int i = 0; i < offsets.length; i++) {
            for (int more = 0; more <= 128; more += 128) {
                Lab lab = new Lab(due).meet();
                lab.arrive(0, Lab.packet(0, 7, offsets[i] / 4 + more, 1, Lab.bytes(0, sizes[i])));
                lab.hostIs(0, Lab.SLOTS, 1);
            }
        }
        int[] farOffsets = {44, 28, 48, 52, 508};
        int[] farSizes = {5, 21, 1, 1, 4};
        for (int i = 0; i < farOffsets.length; i++) {
            for (int more = 0; more <= 128; more += 128) {
                Lab lab = new Lab(due).meet();
                lab.arrive(0, Lab.packet(0, 7, farOffsets[i] / 4 + more, 1, Lab.bytes(0, farSizes[i])));
                lab.hostIs(0, Lab.SLOTS, 0);
            }
        }
    }

    /** A piece that is too far neither takes or empties a slot nor says a whole size. */
    private static void tooFarChangesNothing() {
        Lab lab = new Lab(due).meet();
        begin(lab, 1);
        lab.arrive(0, Lab.packet(0, 1, 11, 1, 1, 2, 3, 4, 5));
        begin(lab, 2);
        lab.arrive(0, Lab.packet(0, 3, 11, 1, 1, 2, 3, 4, 5));
        end(lab, 1);
        slotsPongsToken(lab, 1, 2, 1);
        end(lab, 2);
        slotsPongsToken(lab, 0, 3, 2);
    }

    /** "it goes to the SLOT (of two) that has its ident and protocol" */
    private static void identAndProtocol() {
        Lab lab = new Lab(due).meet();
        begin(lab, 7);
        lab.arrive(0, Lab.packet(0, 7, 1, 6, Model.part(answer(7), 4, 12)));
        slotsPongsToken(lab, 2, 1, 0);
        end(lab, 7);
        slotsPongsToken(lab, 1, 2, 7);
        // The message's protocol is that of its pieces: the whole of protocol 6 is no echo.
        lab.arrive(0, Lab.packet(0, 7, 128, 6, Model.part(answer(8), 0, 4)));
        slotsPongsToken(lab, 0, 2, 7);
        lab.went(1, "");
        // Idents at both ends are idents like others.
        begin(lab, 0);
        begin(lab, 255);
        end(lab, 255);
        slotsPongsToken(lab, 1, 3, 255);
        end(lab, 0);
        slotsPongsToken(lab, 0, 4, 0);
    }

    /** "or else to a free one, the first first" */
    private static void freeSlotsFirst() {
        Lab lab = new Lab(due).meet();
        begin(lab, 1);
        begin(lab, 2);
        end(lab, 1);
        slotsPongsToken(lab, 1, 2, 1);
        // The first is free: 3 takes it, and 2 is not emptied. Then 4 finds equal ages and takes the first, 3.
        begin(lab, 3);
        lab.hostIs(0, Lab.SLOTS, 2);
        begin(lab, 4);
        lab.hostIs(0, Lab.SLOTS, 2);
        end(lab, 2);
        slotsPongsToken(lab, 1, 3, 2);
        end(lab, 4);
        slotsPongsToken(lab, 0, 4, 4);
    }

    /** "or else to that with the greater age (..), which is emptied" */
    private static void thirdWhenTwoAreInUse() {
        Lab lab = new Lab(due).meet();
        begin(lab, 1);
        lab.x.tick(1);
        begin(lab, 2);
        lab.hostIs(0, Lab.SLOTS, 2);
        begin(lab, 3);
        lab.hostIs(0, Lab.SLOTS, 2);
        end(lab, 2);
        slotsPongsToken(lab, 1, 2, 2);
        // Of 1 nothing is left: its end alone begins anew.
        end(lab, 1);
        slotsPongsToken(lab, 2, 2, 2);
        end(lab, 3);
        slotsPongsToken(lab, 1, 3, 3);
    }

    /** "(the first, if equal)" */
    private static void equalAges() {
        for (int age = 0; age <= 9; age += 3) {
            Lab lab = new Lab(due).meet();
            begin(lab, 1);
            begin(lab, 2);
            if (age > 0) {
                lab.x.tick(age);
            }
            begin(lab, 3);
            end(lab, 2);
            slotsPongsToken(lab, 1, 2, 2);
            end(lab, 3);
            slotsPongsToken(lab, 0, 3, 3);
        }
    }

    private static void secondIsOlder() {
        Lab lab = new Lab(due).meet();
        begin(lab, 1);
        begin(lab, 2);
        end(lab, 1);
        lab.x.tick(1);
        begin(lab, 3);
        begin(lab, 4);
        // The second, 2, was older than 3 in the first.
        end(lab, 3);
        slotsPongsToken(lab, 1, 3, 3);
        end(lab, 4);
        slotsPongsToken(lab, 0, 4, 4);
    }

    private static void emptiedSlotHasNothingOfTheOld() {
        Lab lab = new Lab(due).meet();
        // 1 lacks only its bytes 0 to 3; 3 comes in its place with just these.
        end(lab, 1);
        begin(lab, 2);
        begin(lab, 3);
        slotsPongsToken(lab, 2, 1, 0);
        // Nor does the old whole size count: 12 bytes of 3 are there, and MORE follow.
        lab.arrive(0, piece(3, 4, 12, true, answer(3)));
        slotsPongsToken(lab, 2, 1, 0);
        lab.arrive(0, piece(3, 8, 12, false, answer(3)));
        slotsPongsToken(lab, 1, 2, 3);
        // The same for a slot that became free by its message.
        begin(lab, 4);
        end(lab, 4);
        slotsPongsToken(lab, 1, 3, 4);
        end(lab, 4);
        slotsPongsToken(lab, 2, 3, 4);
    }

    /** "ages of slots grow by 1, a slot of age 10 is free" */
    private static void slotOfAgeTen() {
        Lab lab = new Lab(due).meet();
        begin(lab, 1);
        lab.x.tick(9);
        lab.hostIs(0, Lab.SLOTS, 1);
        end(lab, 1);
        slotsPongsToken(lab, 0, 2, 1);
        begin(lab, 2);
        lab.x.tick(10);
        lab.hostIs(0, Lab.SLOTS, 0);
        end(lab, 2);
        slotsPongsToken(lab, 1, 2, 1);
        // More of a message does not make its slot younger; each slot has its own age.
        lab = new Lab(due).meet();
        begin(lab, 1);
        lab.x.tick(5);
        begin(lab, 2);
        lab.x.tick(4);
        lab.arrive(0, piece(1, 4, 8, true, answer(1)));
        lab.hostIs(0, Lab.SLOTS, 2);
        lab.x.tick(1);
        lab.hostIs(0, Lab.SLOTS, 1);
        lab.x.tick(4);
        lab.hostIs(0, Lab.SLOTS, 1);
        lab.x.tick(1);
        lab.hostIs(0, Lab.SLOTS, 0);
        // Ten ticks and more in one call.
        begin(lab, 3);
        lab.x.tick(11);
        lab.hostIs(0, Lab.SLOTS, 0);
    }

    /** "(age 0 when it is begun)" */
    private static void beganAnewAtAgeZero() {
        Lab lab = new Lab(due).meet();
        begin(lab, 1);
        lab.x.tick(9);
        end(lab, 1);
        begin(lab, 2);
        lab.x.tick(9);
        lab.hostIs(0, Lab.SLOTS, 1);
        lab.x.tick(1);
        lab.hostIs(0, Lab.SLOTS, 0);
        // A slot that is emptied for another too.
        lab = new Lab(due).meet();
        begin(lab, 1);
        lab.x.tick(2);
        begin(lab, 2);
        lab.x.tick(1);
        begin(lab, 3);
        begin(lab, 4);
        end(lab, 3);
        slotsPongsToken(lab, 1, 2, 3);
    }

    /** "A byte that is there already stays." */
    private static void bytesThatAreThereStay() {
        Lab lab = new Lab(due).meet();
        lab.arrive(0, piece(7, 0, 8, true, answer(60)));
        lab.arrive(0, piece(7, 0, 8, true, answer(61)));
        lab.arrive(0, piece(7, 4, 12, false, answer(60)));
        slotsPongsToken(lab, 0, 2, 60);
        // A byte of 0 is there like others.
        begin(lab, 9);
        lab.arrive(0, Lab.packet(0, 9, 128, 1, 9, 9, 9, 9));
        end(lab, 9);
        slotsPongsToken(lab, 0, 3, 9);
    }

    /** "when a piece without MORE came, a whole size (the latest such)" */
    private static void latestWholeSizeCounts() {
        // 16 first, then 5: whatever lies behind is no part of the message.
        int[] five = Model.part(Lab.packet(0, 0, 0, 1, 0, 0, 0, 0, 70), 13, 18);
        Lab lab = new Lab(due).meet();
        lab.arrive(0, Lab.packet(0, 7, 2, 1, 1, 1, 1, 1, 1, 1, 1, 1));
        lab.arrive(0, Lab.packet(0, 7, 1, 1, 70));
        lab.hostIs(0, Lab.SLOTS, 1);
        lab.arrive(0, piece(7, 0, 4, true, five));
        slotsPongsToken(lab, 0, 2, 70);
        // 5 first, then 12: the first 5 alone are not the message any more.
        lab.arrive(0, Lab.packet(0, 8, 1, 1, 80));
        lab.arrive(0, piece(8, 8, 12, false, answer(80)));
        lab.arrive(0, piece(8, 0, 4, true, answer(80)));
        slotsPongsToken(lab, 1, 2, 70);
        lab.arrive(0, piece(8, 4, 8, true, answer(80)));
        slotsPongsToken(lab, 0, 3, 80);
        // A piece with MORE that comes later leaves the whole size.
        end(lab, 9);
        lab.arrive(0, piece(9, 8, 12, true, answer(9)));
        begin(lab, 9);
        slotsPongsToken(lab, 0, 4, 9);
    }

    /** "When all bytes below the whole size are there" */
    private static void lastByteMissing() {
        int[] m = answer(33);
        Lab lab = new Lab(due).meet();
        // 8, 9 and 10 come, then the whole size is 12 by its last byte's piece alone.
        lab.arrive(0, piece(7, 0, 7, true, m));
        lab.arrive(0, piece(7, 8, 12, false, m));
        slotsPongsToken(lab, 1, 1, 0);
        lab.arrive(0, piece(7, 4, 8, true, m));
        slotsPongsToken(lab, 0, 2, 33);
        // 48 bytes, the greatest message, in four pieces.
        int[] most = Model.join(new int[] {0, 0, 0, 0, 44}, Lab.bytes(1, 43));
        Frames.putPair(most, 2, Model.check(most));
        for (int from = 36; from >= 0; from -= 12) {
            slotsPongsToken(lab, from == 36 ? 0 : 1, 2, 33);
            lab.arrive(0, piece(8, from, from + 12, from < 36, most));
        }
        slotsPongsToken(lab, 0, 3, 44);
    }

    /** "these are the message, and the slot is free" */
    private static void freeWhenTheMessageIsThere() {
        Lab lab = new Lab(due).meet();
        begin(lab, 1);
        begin(lab, 2);
        end(lab, 2);
        slotsPongsToken(lab, 1, 2, 2);
        begin(lab, 3);
        slotsPongsToken(lab, 2, 2, 2);
        end(lab, 1);
        end(lab, 3);
        slotsPongsToken(lab, 0, 4, 3);
        // Free too when nobody takes the message: its check is wrong.
        begin(lab, 4);
        lab.arrive(0, piece(4, 4, 12, false, answer(5)));
        slotsPongsToken(lab, 0, 4, 3);
    }

    private static void hostsAreApart() {
        Lab lab = new Lab(due).meet();
        begin(lab, 1);
        lab.hostIs(1, Lab.SLOTS, 0);
        lab.x.ping(0, 1, 43);
        lab.x.carry(1);
        lab.hostIs(1, Lab.SLOTS, 1);
        lab.hostIs(0, Lab.SLOTS, 1);
    }
}
