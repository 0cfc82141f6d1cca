import java.util.ArrayList;
import java.util.List;
import java.util.Random;

/**
 * Runs of 512 calls, by fixed seeds, on WireHosts and on the Model: all that they answer is the same. Asking counts as
 * a call too, so each step is followed by a few questions, and the last calls of a run ask for as much as they can.
 */
public final class ModelTest {
    private static final int RUNS = 32000;
    private static final int CALLS_FOR_THE_END = 160;

    private final Random random;
    private final Counted real = new Counted();
    private final Model model = new Model();
    private final List<String> told = new ArrayList<>();
    private boolean differs = false;

    private ModelTest(long seed) {
        random = new Random(seed);
    }

    public static void main(String[] args) {
        Due due = new Due();
        int[] seen = new int[11];
        for (int seed = 0; seed < RUNS && due.wrong() < 3; seed++) {
            ModelTest run = new ModelTest(seed);
            if (seed / 4 % 2 == 1) {
                run.openFirst();
            }
            run.play(seed % 4, seed / 8 % 2 == 1, seen);
            due.no("seed " + seed + ": a difference after " + run.told.size() + " calls", run.differs);
            if (run.differs) {
                run.told.forEach(System.out::println);
            }
        }
        for (int state = 0; state < seen.length; state++) {
            due.yes("runs that came to state " + state, seen[state] > 50);
        }
        due.end();
    }

    /** Sockets 1 become OPEN, so that what comes then is met in time. */
    private void openFirst() {
        answer("listen 1 1", bit(real.listen(1, 1)), bit(model.listen(1, 1)));
        answer("connect 0 1", bit(real.connect(0, 1)), bit(model.connect(0, 1)));
        for (int i = 0; i < 5; i++) {
            int h = 1 - i % 2;
            answer("carry " + h, real.carry(h), model.carry(h));
        }
    }

    private void play(int mood, boolean slowReader, int[] seen) {
        while (real.callsLeft() > CALLS_FOR_THE_END && !differs) {
            step(mood, slowReader);
            for (int i = pick(4); i > 0 && !differs && real.callsLeft() > 0; i--) {
                askOne();
            }
            for (int h = 0; h < 2; h++) {
                for (int p = 1; p <= 2; p++) {
                    seen[model.socket(h, p, 0)]++;
                }
            }
        }
        if (!differs) {
            askAll();
        }
    }

    private void answer(String call, long got, long want) {
        told.add(call + " = " + got + (got == want ? "" : ", model: " + want));
        differs |= got != want;
    }

    private static long bit(boolean b) {
        return b ? 1 : 0;
    }

    private int pick(int bound) {
        return random.nextInt(bound);
    }

    /** Mostly a right number, now and then one beside it. */
    private int near(int low, int high) {
        return pick(40) == 0 ? (pick(2) == 0 ? low - 1 - pick(2) : high + 1 + pick(2)) : low + pick(high - low + 1);
    }

    private void step(int mood, boolean slowReader) {
        int h = near(0, 1);
        int p = mood == 0 ? near(1, 2) : pick(30) == 0 ? near(1, 2) : 1;
        int dice = pick(100);
        if (dice < 38) {
            carry(h);
        } else if (dice < 56) {
            sendSome(h, p, mood);
        } else if (dice < 66) {
            readSome(h, p, slowReader ? 1 : 8);
        } else if (dice < 70) {
            answer("connect " + h + " " + p, bit(real.connect(h, p)), bit(model.connect(h, p)));
        } else if (dice < 74) {
            answer("listen " + h + " " + p, bit(real.listen(h, p)), bit(model.listen(h, p)));
        } else if (dice < 76) {
            answer("close " + h + " " + p, bit(real.close(h, p)), bit(model.close(h, p)));
        } else if (dice < 77) {
            if (pick(3) == 0) {
                answer("abort " + h + " " + p, bit(real.abort(h, p)), bit(model.abort(h, p)));
            }
        } else if (dice < 79) {
            int token = near(0, 255);
            int n = near(0, 43);
            answer("ping " + h + " " + token + " " + n, bit(real.ping(h, token, n)), bit(model.ping(h, token, n)));
        } else if (dice < 84) {
            int how = near(0, 2);
            answer("disturb " + h + " " + how, bit(real.disturb(h, how)), bit(model.disturb(h, how)));
        } else if (dice < 90) {
            int n = pick(6) == 0 ? near(1, 60) : near(1, 5);
            answer("tick " + n, real.tick(n), model.tick(n));
        } else if (mood >= 2) {
            forge(h & 1);
        } else if (dice == 99) {
            alter(h, near(0, 36), near(1, 255));
        }
    }

    private void carry(int h) {
        for (int i = pick(4); i >= 0 && !differs; i--) {
            answer("carry " + h, real.carry(h), model.carry(h));
        }
    }

    private void sendSome(int h, int p, int mood) {
        int count = mood == 1 ? 1 + pick(20) : 1 + pick(3);
        for (int i = 0; i < count && !differs; i++) {
            int v = near(0, 255);
            answer("send " + h + " " + p + " " + v, bit(real.send(h, p, v)), bit(model.send(h, p, v)));
        }
    }

    private void readSome(int h, int p, int most) {
        for (int i = pick(most); i >= 0 && !differs; i--) {
            answer("read " + h + " " + p, real.read(h, p), model.read(h, p));
        }
    }

    private void alter(int h, int k, int mask) {
        answer("alter " + h + " " + k + " " + mask, bit(real.alter(h, k, mask)), bit(model.alter(h, k, mask)));
    }

    /** Changes a field of the first frame and makes its checksums right again, so that the change gets through. */
    private void forge(int h) {
        if (model.flying(h) == 0) {
            return;
        }
        int[] frame = model.way.get(h).get(0).clone();
        int[] wanted = frame.clone();
        if (frame[2] == 8 && frame.length >= 23 && frame[7] == 6 && pick(5) > 0) {
            forgeSegment(h, wanted);
        } else if (frame[2] == 8) {
            forgePacket(wanted);
        } else {
            wanted[pick(7)] = new int[] {0, 1, 2, 6, 16, 17, 255}[pick(7)];
        }
        Frames.seal(wanted);
        for (int k = 0; k < frame.length; k++) {
            if (frame[k] != wanted[k]) {
                alter(h, k, frame[k] ^ wanted[k]);
            }
        }
    }

    private void forgeSegment(int h, int[] f) {
        int p = f[13] == 2 ? 2 : 1;
        switch (pick(7)) {
            case 0 -> f[14] = new int[] {0, 1, 2, 3, 4, 16, 17, 18, 19, 20, 21, 8, 24}[pick(13)];
            case 1 -> Frames.putPair(f, 15, model.socket(h, p, 3) + pick(60) - 30);
            case 2 -> Frames.putPair(f, 17, model.socket(h, p, 1 + pick(2)) + pick(9) - 4);
            case 3 -> f[19] = pick(3) == 0 ? pick(256) : pick(60);
            case 4 -> {
                if (pick(2) == 0) {
                    Frames.putPair(f, 17, model.socket(h, p, 2) + 32760 + pick(16));
                } else {
                    f[14] = Lab.FIN + Lab.ACK;
                }
            }
            case 5 -> Frames.putPair(f, 15, 65536 - pick(40));
            default -> f[13 + pick(f.length - 13)] ^= 1 << pick(8);
        }
    }

    private void forgePacket(int[] f) {
        switch (pick(5)) {
            case 0 -> f[5] = pick(2) * 128 + pick(13);
            case 1 -> f[4] = pick(4);
            case 2 -> f[7] = pick(2) == 0 ? 1 : 6;
            case 3 -> f[6 + pick(2) * 2] = pick(256);
            default -> f[pick(f.length)] ^= 1 << pick(8);
        }
    }

    /** One question, mostly about what there is. */
    private void askOne() {
        int h = near(0, 1);
        switch (pick(4)) {
            case 0 -> askSocket(h, near(1, 2), near(0, 10));
            case 1 -> askHost(h, near(0, 7));
            case 2 -> askFlying(h);
            default -> {
                int k = Math.max(0, model.flying(h) - 1 - pick(3));
                askOctet(h, pick(40) == 0 ? near(0, 15) : k, near(-1, 36));
            }
        }
    }

    /** All numbers of sockets and hosts, then the frames on the way, the latest first, as far as calls are left. */
    private void askAll() {
        for (int h = 0; h < 2; h++) {
            askFlying(h);
            for (int what = 0; what < 8; what++) {
                askHost(h, what);
            }
            for (int p = 1; p <= 2; p++) {
                for (int what = 0; what < 11; what++) {
                    askSocket(h, p, what);
                }
            }
        }
        for (int back = 1; back <= 16; back++) {
            for (int h = 0; h < 2; h++) {
                int k = model.flying(h) - back;
                for (int i = -1; i < model.octet(h, k, -1) && real.callsLeft() > 0; i++) {
                    askOctet(h, k, i);
                }
            }
        }
    }

    private void askSocket(int h, int p, int what) {
        answer("socket " + h + " " + p + " " + what, real.socket(h, p, what), model.socket(h, p, what));
    }

    private void askHost(int h, int what) {
        answer("host " + h + " " + what, real.host(h, what), model.host(h, what));
    }

    private void askFlying(int h) {
        answer("flying " + h, real.flying(h), model.flying(h));
    }

    private void askOctet(int h, int k, int i) {
        answer("octet " + h + " " + k + " " + i, real.octet(h, k, i), model.octet(h, k, i));
    }
}
