/** Promises 17 to 20: what if. Each answer is compared with what comes when the samples are made. */
final class WhatIfTest {
    private static final int LOW = Integer.MIN_VALUE;
    private static final int HIGH = Integer.MAX_VALUE;

    public static void main(String[] args) {
        ifMadeAnswers();
        ifMadeCourse();
        untilClip();
        untilClipFar();
        bestStepAnswers();
        bestStepAll();
        untilRoundAnswers();
        untilRoundWithSweeps();
        Due.end();
    }

    private static void ifMadeAnswers() {
        PhaseTones x = new PhaseTones();
        for (int bad : new int[] {0, 2001, -1, LOW, HIGH}) {
            Due.is("ifMade(" + bad + ", 0)", x.ifMade(bad, 0), Due.BAD_VALUE);
        }
        for (int bad : new int[] {-1, 4, LOW, HIGH}) {
            Due.is("ifMade(1, " + bad + ")", x.ifMade(1, bad), Due.BAD_VALUE);
        }
        Due.is("ifMade(2000, 0)", x.ifMade(2000, 0), 120);
        Due.is("ifMade(2000, 1)", x.ifMade(2000, 1), 0);
        Due.is("ifMade(2000, 2)", x.ifMade(2000, 2), 0);
        Due.is("ifMade(2000, 3)", x.ifMade(2000, 3), 1999 % 64 / 4 * 8);
        Due.is("the greatest one is 0", x.ifMade(4, 0), 0);
        x.phase(0, 65535);
        x.step(0, 0);
        Due.is("the least one is not 0", x.ifMade(5, 1), 120);
        x.clip(119);
        Due.is("all are clipped", x.ifMade(2000, 2), 2000);
        x.make(3);
        Due.is("those made before do not count", x.ifMade(7, 2), 7);
        Due.is("greatest of the clipped ones", x.ifMade(7, 0), 119);
    }

    private static PhaseTones withFourWheels() {
        PhaseTones x = new PhaseTones();
        for (int wheel = 1; wheel < 4; wheel++) {
            x.turn(wheel, true);
            x.table(wheel, wheel - 1);
            x.step(wheel, 700 * wheel + 1);
        }
        x.sweep(0, 30000, 500);
        x.sweep(0, 3, 400);
        x.sweep(2, 65535, 90);
        x.clip(230);
        x.make(11);
        return x;
    }

    private static void ifMadeCourse() {
        PhaseTones x = withFourWheels();
        PhaseTones other = withFourWheels();
        String before = Due.soundOf(x);
        int greatest = 0;
        int least = 1000;
        int clippedBefore = other.count(2);
        for (int samples = 1; samples <= 2000; samples++) {
            int latest = other.make(1);
            greatest = Math.max(greatest, latest);
            least = Math.min(least, latest);
            if (samples < 20 || samples % 97 == 0 || samples == 2000) {
                Due.is("ifMade(" + samples + ", 0)", x.ifMade(samples, 0), greatest);
                Due.is("ifMade(" + samples + ", 1)", x.ifMade(samples, 1), least);
                Due.is("ifMade(" + samples + ", 2)", x.ifMade(samples, 2), other.count(2) - clippedBefore);
                Due.is("ifMade(" + samples + ", 3)", x.ifMade(samples, 3), latest);
            }
        }
        Due.isTrue("ifMade changes nothing", before.equals(Due.soundOf(x)));
        Due.is("ifMade is no change", x.count(9), 6);
    }

    private static void untilClip() {
        PhaseTones x = new PhaseTones();
        Due.is("none is clipped", x.untilClip(), Due.NONE);
        x.clip(120);
        Due.is("as much as CLIP is not clipped", x.untilClip(), Due.NONE);
        x.clip(119);
        Due.is("the sample itself is counted", x.untilClip(), 61);
        x.make(59);
        Due.is("behind 59", x.untilClip(), 2);
        x.make(1);
        Due.is("behind 60", x.untilClip(), 1);
        x.make(1);
        Due.is("the next one, too", x.untilClip(), 1);
        x.make(3);
        Due.is("a round later", x.untilClip(), 61);
        Due.is("untilClip is no change", x.count(9), 6);
        x.turn(0, false);
        Due.is("a wheel that is off clips nothing", x.untilClip(), Due.NONE);
    }

    private static void untilClipFar() {
        PhaseTones x = new PhaseTones();
        x.clip(119);
        x.step(0, 1);
        x.phase(0, 61440 - 1999);
        Due.is("the 2000th sample", x.untilClip(), 2000);
        x.phase(0, 61440 - 2000);
        Due.is("the 2001st sample is too far", x.untilClip(), Due.NONE);
    }

    private static void bestStepAnswers() {
        PhaseTones x = new PhaseTones();
        for (int bad : new int[] {1, 65537, -1, 0, LOW, HIGH}) {
            Due.is("bestStep(" + bad + ", 0)", x.bestStep(bad, 0), Due.BAD_VALUE);
        }
        for (int bad : new int[] {-1, 2, LOW, HIGH}) {
            Due.is("bestStep(2, " + bad + ")", x.bestStep(2, bad), Due.BAD_VALUE);
        }
        Due.is("bestStep(2, 1)", x.bestStep(2, 1), 2);
        Due.is("bestStep(3, 0): the least step of two lengths", x.bestStep(3, 0), 16384);
        Due.is("bestStep(3, 1)", x.bestStep(3, 1), 4);
        Due.is("bestStep(65536, 1)", x.bestStep(65536, 1), 65536);
        Due.is("bestStep(49151, 0)", x.bestStep(49151, 0), 2);
        Due.is("bestStep(49152, 0)", x.bestStep(49152, 0), 1);
    }

    /** Looks at all steps, for wanted lengths that are near to where the answer changes. */
    private static void bestStepAll() {
        PhaseTones x = new PhaseTones();
        for (int length = 2; length <= 32768; length *= 2) {
            for (int samples = length * 3 / 2 - 1; samples <= length * 3 / 2 + 1; samples++) {
                int best = 1;
                for (int step = 2; step <= 32768 && samples >= 2; step++) {
                    if (Math.abs(roundOf(step) - samples) < Math.abs(roundOf(best) - samples)) {
                        best = step;
                    }
                }
                if (samples >= 2) {
                    Due.is("bestStep(" + samples + ", 0)", x.bestStep(samples, 0), best);
                    Due.is("bestStep(" + samples + ", 1)", x.bestStep(samples, 1), roundOf(best));
                }
            }
        }
    }

    private static int roundOf(int step) {
        int one = 65536;
        int other = step;
        while (other != 0) {
            int left = one % other;
            one = other;
            other = left;
        }
        return 65536 / one;
    }

    private static void untilRoundAnswers() {
        PhaseTones x = new PhaseTones();
        for (int bad : new int[] {-1, 4, LOW, HIGH}) {
            Due.is("untilRound(" + bad + ")", x.untilRound(bad), Due.NO_SUCH);
        }
        int[] steps = {1, 2, 3, 1024, 1025, 32768, 40000, 65535};
        int[] phases = {0, 1, 1024, 25536, 32767, 32768, 64511, 64512, 65535};
        for (int step : steps) {
            for (int phase : phases) {
                x.step(1, step);
                x.phase(1, phase);
                Due.is("untilRound of step " + step + ", phase " + phase, x.untilRound(1), (65536 - phase + step - 1) / step);
            }
        }
        x.step(1, 0);
        Due.is("a wheel that stands", x.untilRound(1), Due.NONE);
        Due.is("untilRound is no change", x.undo(), 5);
    }

    private static void untilRoundWithSweeps() {
        PhaseTones x = new PhaseTones();
        x.step(0, 0);
        x.sweep(0, 0, 999);
        Due.is("it never goes on", x.untilRound(0), Due.NONE);
        x.sweep(0, 1, 999);
        Due.is("a long way, behind sweeps", x.untilRound(0), 999 + 999 + 65536);
        x.sweep(0, 3000, 50);
        x.sweep(0, 0, 50);
        x.turn(0, false);
        int off = x.untilRound(0);
        x.turn(0, true);
        int on = x.untilRound(0);
        Due.is("on or off", off, on);
        int samples = 0;
        int before = -1;
        while (x.wheel(0, 0) >= before && samples < 70000) {
            before = x.wheel(0, 0);
            x.make(1);
            samples++;
        }
        Due.is("it goes round in the sweeps", on, samples);
        PhaseTones down = new PhaseTones();
        down.step(0, 40000);
        down.sweep(0, 0, 1);
        Due.is("it stands before it is round", down.untilRound(0), Due.NONE);
        down.phase(0, 25536);
        Due.is("it is round with the first sample", down.untilRound(0), 1);
        down.phase(0, 25535);
        Due.is("it is not quite round", down.untilRound(0), Due.NONE);
    }
}
