/** Promises 12 to 16: what there is. */
final class QuestionsTest {
    private static final int LOW = Integer.MIN_VALUE;
    private static final int HIGH = Integer.MAX_VALUE;

    public static void main(String[] args) {
        wheel();
        wheelSteps();
        valueOf();
        sample();
        beat();
        countAnswers();
        countOfWheels();
        countOfRises();
        countSum();
        countsOfPadAndHistory();
        nothingChanges();
        Due.end();
    }

    private static void wheel() {
        PhaseTones x = new PhaseTones();
        for (int bad : new int[] {-1, 4, LOW, HIGH}) {
            Due.is("wheel(" + bad + ", 0)", x.wheel(bad, 0), Due.NO_SUCH);
            Due.is("wheel(" + bad + ", 11)", x.wheel(bad, 11), Due.NO_SUCH);
        }
        for (int bad : new int[] {-1, 11, LOW, HIGH}) {
            Due.is("wheel(3, " + bad + ")", x.wheel(3, bad), Due.BAD_VALUE);
        }
        x.turn(2, true);
        x.step(2, 40000);
        x.table(2, 1);
        x.volume(2, 5);
        x.phase(2, 12345);
        x.make(1);
        x.sweep(2, 100, 10);
        x.sweep(2, 7, 20);
        x.make(3);
        int step = 40000 - (40000 - 100) * 3 / 10;
        int phase = (12345 + 40000 + 40000 + 36010 + 32020) % 65536;
        int place = phase / 4096;
        int value = (place < 8 ? 2 * place : 30 - 2 * place) * 5;
        int[] want = {phase, step, 1, 5, 1, 2, value, step, 32768, 27, 7};
        for (int what = 0; what < want.length; what++) {
            Due.is("wheel(2, " + what + ")", x.wheel(2, what), want[what]);
        }
        x.turn(2, false);
        Due.is("wheel(2, 4) when off", x.wheel(2, 4), 0);
        Due.is("wheel(2, 6) when off", x.wheel(2, 6), value);
        Due.is("wheel(2, 8) when off", x.wheel(2, 8), 32768);
    }

    private static void wheelSteps() {
        int[] steps = {0, 1, 2, 3, 4, 6, 255, 256, 1000, 16384, 32767, 32768, 32769, 49152, 65532, 65534, 65535};
        int[] images = {0, 1, 2, 3, 4, 6, 255, 256, 1000, 16384, 32767, 32768, 32767, 16384, 4, 2, 1};
        PhaseTones x = new PhaseTones();
        for (int i = 0; i < steps.length; i++) {
            x.step(3, steps[i]);
            Due.is("image of " + steps[i], x.wheel(3, 7), images[i]);
            Due.is("samples of a round of " + steps[i], x.wheel(3, 8), roundOf(steps[i]));
        }
    }

    /** Behind how many samples a step's phase is the same again, by going on until it is. */
    private static int roundOf(int step) {
        int phase = step % 65536;
        int samples = 1;
        while (phase != 0) {
            phase = (phase + step) % 65536;
            samples++;
        }
        return samples;
    }

    private static void valueOf() {
        PhaseTones x = new PhaseTones();
        for (int bad : new int[] {-1, 4, LOW, HIGH}) {
            Due.is("valueOf(" + bad + ", 0)", x.valueOf(bad, 0), Due.NO_SUCH);
        }
        for (int bad : new int[] {-1, 16, LOW, HIGH}) {
            Due.is("valueOf(0, " + bad + ")", x.valueOf(0, bad), Due.NO_SUCH);
        }
        x.fill(3, 15, 13);
        Due.is("valueOf(3, 15)", x.valueOf(3, 15), 13);
        Due.is("valueOf(3, 14)", x.valueOf(3, 14), 0);
        Due.is("valueOf(2, 7)", x.valueOf(2, 7), 15);
    }

    private static void sample() {
        PhaseTones x = new PhaseTones();
        for (int bad : new int[] {-1, 32, LOW, HIGH}) {
            Due.is("sample(" + bad + ")", x.sample(bad), Due.BAD_VALUE);
        }
        x.step(0, 4096);
        for (int made = 1; made <= 70; made++) {
            x.make(1);
            for (int ago : new int[] {0, 1, made - 1, made, 30, 31}) {
                if (ago < 32) {
                    int want = ago < made ? (made - 1 - ago) % 16 * 8 : Due.NONE;
                    Due.is("sample(" + ago + ") of " + made, x.sample(ago), want);
                }
            }
        }
    }

    private static void beat() {
        PhaseTones x = new PhaseTones();
        for (int bad : new int[] {-1, 4, LOW, HIGH}) {
            Due.is("beat(" + bad + ", 0)", x.beat(bad, 0), Due.NO_SUCH);
            Due.is("beat(0, " + bad + ")", x.beat(0, bad), Due.NO_SUCH);
        }
        x.step(1, 65536 - 1000);
        x.step(2, 32768);
        x.step(3, 0);
        int[] images = {1024, 1000, 32768, 0};
        for (int one = 0; one < 4; one++) {
            for (int other = 0; other < 4; other++) {
                Due.is("beat(" + one + ", " + other + ")", x.beat(one, other), Math.abs(images[one] - images[other]));
            }
        }
    }

    private static void countAnswers() {
        PhaseTones x = new PhaseTones();
        for (int bad : new int[] {-1, 10, LOW, HIGH}) {
            Due.is("count(" + bad + ")", x.count(bad), Due.BAD_VALUE);
        }
        x.clip(48);
        x.make(64);
        Due.is("count(0)", x.count(0), 48);
        Due.is("count(1)", x.count(1), 64);
        Due.is("count(2): as much as CLIP is not clipped", x.count(2), 36);
        Due.is("count(4)", x.count(4), 0);
        Due.is("count(5)", x.count(5), 4 * (8 + 16 + 24 + 32 + 40) + 40 * 48);
        Due.is("count(6): the clipped ones are equal", x.count(6), 6);
        x.phase(0, 65535);
        Due.is("count(4), clipped", x.count(4), 48);
    }

    private static void countOfWheels() {
        PhaseTones x = new PhaseTones();
        x.turn(1, true);
        x.step(1, 3);
        Due.is("count(7) of two", x.count(7), 65536);
        x.turn(1, false);
        Due.is("count(7) of one that is on", x.count(7), 64);
        x.turn(2, true);
        x.turn(3, true);
        x.step(2, 96);
        x.step(3, 0);
        Due.is("count(7) of three", x.count(7), 2048);
        Due.is("count(3)", x.count(3), 13);
        x.turn(0, false);
        x.turn(2, false);
        Due.is("count(7) of one that stands", x.count(7), 1);
        Due.is("count(3) of one", x.count(3), 8);
        x.turn(3, false);
        Due.is("count(7) of none", x.count(7), 1);
        Due.is("count(3) of none", x.count(3), 0);
        Due.is("count(4) of none", x.count(4), 0);
    }

    private static void countOfRises() {
        PhaseTones x = new PhaseTones();
        x.table(0, 2);
        x.make(1);
        Due.is("the first sample has none before it", x.count(6), 0);
        x.make(63);
        Due.is("falls do not count", x.count(6), 0);
        x.make(1);
        Due.is("a rise", x.count(6), 1);
        x.make(31);
        Due.is("equal ones do not count", x.count(6), 1);
    }

    private static void countSum() {
        PhaseTones x = new PhaseTones();
        x.clip(960);
        x.step(0, 0);
        x.table(0, 2);
        x.volume(0, 16);
        long sum = 0;
        for (int i = 0; i < 9; i++) {
            x.make(999);
            sum += 999 * 240;
            Due.is("sum of " + x.count(1), x.count(5), sum % 1000003);
        }
    }

    private static void countsOfPadAndHistory() {
        PhaseTones x = new PhaseTones();
        x.put(Due.packed("0v1"));
        Due.is("count(8)", x.count(8), 3);
        for (int i = 1; i <= 8; i++) {
            x.clip(i);
            Due.is("count(9) behind " + i, x.count(9), Math.min(i, 6));
        }
        x.undo();
        Due.is("count(9) behind undo", x.count(9), 5);
    }

    private static void nothingChanges() {
        PhaseTones x = new PhaseTones();
        x.sweep(0, 9999, 77);
        x.turn(1, true);
        x.make(40);
        String before = Due.soundOf(x);
        x.beat(0, 1);
        x.bestStep(100, 0);
        x.fault();
        Due.isTrue("a question changes nothing", before.equals(Due.soundOf(x)));
        Due.is("a question is no change", x.count(9), 3);
    }
}
