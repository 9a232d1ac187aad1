/** Boundary cases of samples, sweeps, images and beats. */
final class SampleBoundaries {
    private SampleBoundaries() {
    }

    /** Four wheels that each give 240, the greatest value there is, for ever. */
    private static PhaseTones loudest() {
        PhaseTones x = new PhaseTones();
        for (int wheel = 0; wheel < 4; wheel++) {
            x.turn(wheel, true);
            x.volume(wheel, 16);
            x.table(wheel, 2);
            x.step(wheel, 0);
        }
        return x;
    }

    private static PhaseTones withStep(int step) {
        PhaseTones x = new PhaseTones();
        x.step(0, step);
        return x;
    }

    // ---- samples

    @Says(
        in = "Samples",
        sentence = "each wheel that is on gives the value of its table that its phase divided by 4096 tells, times its volume")
    static void theValueChangesWhereTheNextPlaceBegins() {
        PhaseTones x = new PhaseTones();
        x.fill(0, 0, 5);
        int[] phases = {0, 4095, 4096, 8191, 61439, 61440, 65535};
        int[] values = {5, 5, 1, 1, 14, 15, 15};
        for (int i = 0; i < phases.length; i++) {
            x.phase(0, phases[i]);
            Due.is("mixture of the phase " + phases[i], x.make(1), values[i] * 8);
        }
    }

    @Says(in = "Samples", sentence = "times its volume")
    static void theVolume0GivesNothingAndTheVolume16TheMost() {
        PhaseTones x = new PhaseTones();
        x.phase(0, 65535);
        x.step(0, 0);
        x.volume(0, 0);
        Due.is("with the volume 0", x.make(1), 0);
        x.volume(0, 16);
        Due.is("with the volume 16", x.make(1), 240);
    }

    @Says(in = "Samples", sentence = "each wheel that is on gives the value")
    static void aWheelThatIsOffGivesNothing() {
        PhaseTones x = loudest();
        x.clip(960);
        for (int wheel = 3; wheel >= 0; wheel--) {
            x.turn(wheel, false);
            Due.is("mixture without the wheel " + wheel, x.make(1), 240 * wheel);
        }
        Due.is("none of them is clipped", x.count(2), 0);
    }

    @Says(in = "Samples", sentence = "the mixture of all is their sum, but at most CLIP: then it is clipped")
    static void aSumOfClipIsNotClippedAndOneMoreIs() {
        PhaseTones x = loudest();
        x.clip(960);
        Due.is("the greatest sum", x.make(1), 960);
        Due.is("as much as CLIP is not clipped", x.count(2), 0);
        x.clip(959);
        Due.is("one more than CLIP", x.make(1), 959);
        Due.is("one more than CLIP is clipped", x.count(2), 1);
        x.clip(1);
        Due.is("with the least CLIP", x.make(1), 1);
        Due.is("with the least CLIP it is clipped", x.count(2), 2);
    }

    @Says(in = "Samples", sentence = "its phase becomes (its phase and its step) left over by 65536")
    static void thePhaseWrapsAround() {
        int[][] cases = {
            {65535, 1, 0}, {65534, 1, 65535}, {1, 65535, 0}, {65535, 65535, 65534}, {0, 65535, 65535},
            {32768, 32768, 0}, {9, 0, 9},
        };
        for (int[] one : cases) {
            PhaseTones x = new PhaseTones();
            x.phase(0, one[0]);
            x.step(0, one[1]);
            x.make(1);
            Due.is("phase " + one[0] + " and step " + one[1], x.wheel(0, 0), one[2]);
        }
    }

    @Says(in = "Samples", sentence = "Then each wheel that is on goes on, in this order")
    static void thePhaseGoesOnByTheStepAheadOfTheSweep() {
        PhaseTones x = new PhaseTones();
        x.phase(0, 65535);
        x.sweep(0, 65535, 1);
        Due.is("the mixture is that of the phase ahead of it", x.make(1), 120);
        Due.is("the phase goes on by the step ahead of the sweep", x.wheel(0, 0), 1023);
        Due.is("the step is swept then", x.wheel(0, 1), 65535);
    }

    @Says(in = "Samples", sentence = "Then each wheel that is on goes on")
    static void aWheelThatIsOffDoesNotGoOn() {
        PhaseTones x = new PhaseTones();
        x.sweep(3, 65535, 1);
        x.make(999);
        Due.is("its phase", x.wheel(3, 0), 0);
        Due.is("its step", x.wheel(3, 1), 1024);
        Due.is("its sweeps", x.wheel(3, 5), 1);
        Due.is("samples of its sweeps", x.wheel(3, 9), 1);
    }

    // ---- sweeps

    @Says(
        in = "Samples",
        sentence = "When it begins (as the first in its row), the step that the wheel has then is where it begins.")
    static void aSweepBeginsWhereTheOneAheadOfItEnded() {
        PhaseTones x = new PhaseTones();
        x.sweep(0, 5024, 2);
        x.sweep(0, 5020, 4);
        x.make(2);
        Due.is("behind the first sweep", x.wheel(0, 1), 5024);
        for (int step = 5023; step >= 5020; step--) {
            x.make(1);
            Due.is("in the second sweep", x.wheel(0, 1), step);
        }
    }

    @Says(
        in = "Samples",
        sentence = "When it begins (as the first in its row), the step that the wheel has then is where it begins.")
    static void aSweepBehindADoneOneBeginsAtTheStepOfThen() {
        PhaseTones x = new PhaseTones();
        x.sweep(0, 2000, 1);
        x.make(9);
        x.step(0, 10);
        x.sweep(0, 20, 2);
        x.make(1);
        Due.is("half of a sweep from 10 to 20", x.wheel(0, 1), 15);
    }

    @Says(in = "Samples", sentence = "When it goes on for the k-th time, k from 1 on")
    static void aSweepGoesOnFromTheFirstSample() {
        PhaseTones x = new PhaseTones();
        x.sweep(0, 2024, 999);
        Due.is("ahead of the first time", x.wheel(0, 1), 1024);
        x.make(1);
        Due.is("behind the first time", x.wheel(0, 1), 1025);
        x.make(997);
        Due.is("behind the last time but one", x.wheel(0, 1), 2022);
        x.make(1);
        Due.is("behind the last time", x.wheel(0, 1), 2024);
    }

    @Says(in = "Samples", sentence = "(that division is rounded toward 0)")
    static void aSweepIsRoundedTowardItsBeginning() {
        PhaseTones down = withStep(10);
        down.sweep(0, 0, 3);
        PhaseTones up = withStep(0);
        up.sweep(0, 10, 3);
        int[] stepsDown = {7, 4, 0};
        int[] stepsUp = {3, 6, 10};
        for (int k = 0; k < 3; k++) {
            down.make(1);
            up.make(1);
            Due.is("a step down: rounded toward 0, not down", down.wheel(0, 1), stepsDown[k]);
            Due.is("a step up", up.wheel(0, 1), stepsUp[k]);
        }
    }

    @Says(
        in = "Samples",
        sentence = "the step becomes its beginning and (its end less its beginning) * k / (its number of samples)")
    static void theGreatestSweepsAreExact() {
        PhaseTones down = withStep(65535);
        down.sweep(0, 0, 999);
        PhaseTones up = withStep(0);
        up.sweep(0, 65535, 999);
        int[] times = {1, 499, 998, 999};
        int made = 0;
        for (int k : times) {
            down.make(k - made);
            up.make(k - made);
            made = k;
            long way = 65535L * k / 999;
            Due.is("down, time " + k, down.wheel(0, 1), 65535 - way);
            Due.is("up, time " + k, up.wheel(0, 1), way);
        }
    }

    @Says(
        in = "Samples",
        sentence = "the step becomes its beginning and (its end less its beginning) * k / (its number of samples)")
    static void aSweepToItsBeginningStays() {
        PhaseTones x = new PhaseTones();
        x.sweep(0, 1024, 2);
        x.make(1);
        Due.is("its step", x.wheel(0, 1), 1024);
        Due.is("it goes on even so", x.wheel(0, 9), 1);
        x.make(1);
        Due.is("it is done even so", x.wheel(0, 5), 0);
    }

    @Says(
        in = "Samples",
        sentence = "Behind as many times as its number of samples it is done, and the next sweep of the row begins.")
    static void aSweepIsDoneBehindItsLastSample() {
        PhaseTones x = new PhaseTones();
        x.sweep(0, 3024, 2);
        x.sweep(0, 0, 1);
        x.make(1);
        Due.is("sweeps ahead of the last sample", x.wheel(0, 5), 2);
        x.make(1);
        Due.is("sweeps behind the last sample", x.wheel(0, 5), 1);
        Due.is("the next one has all its samples", x.wheel(0, 9), 1);
        Due.is("the step is the end of the one that is done", x.wheel(0, 1), 3024);
        x.make(1);
        Due.is("a sweep of one sample is done at once", x.wheel(0, 5), 0);
        Due.is("the step is its end", x.wheel(0, 1), 0);
    }

    @Says(in = "Samples", sentence = "Behind as many times as its number of samples it is done")
    static void behindTheLastSweepTheStepStays() {
        PhaseTones x = new PhaseTones();
        x.sweep(0, 65535, 1);
        x.make(999);
        Due.is("the step", x.wheel(0, 1), 65535);
        Due.is("the row is empty", x.wheel(0, 5), 0);
        Due.is("samples of the sweeps", x.wheel(0, 9), 0);
        Due.is("the step behind them", x.wheel(0, 10), 65535);
    }

    // ---- images, beats

    @Says(in = "Samples", sentence = "The image of a step is the step, if it is at most 32768, otherwise 65536 less the step.")
    static void theImageTurnsBehind32768() {
        int[] steps = {0, 1, 32767, 32768, 32769, 65534, 65535};
        int[] images = {0, 1, 32767, 32768, 32767, 2, 1};
        for (int i = 0; i < steps.length; i++) {
            Due.is("image of " + steps[i], withStep(steps[i]).wheel(0, 7), images[i]);
        }
    }

    @Says(in = "Samples", sentence = "The beat of two wheels is how far the images of their steps are from each other.")
    static void theBeatIsTheSameBothWaysAndOfImages() {
        PhaseTones x = withStep(65535);
        x.step(1, 1);
        x.step(2, 32768);
        x.step(3, 0);
        Due.is("equal images", x.beat(0, 1), 0);
        Due.is("the greatest beat", x.beat(2, 3), 32768);
        Due.is("the greatest beat, the other way round", x.beat(3, 2), 32768);
        Due.is("a step that looks like 1", x.beat(0, 3), 1);
        Due.is("a step that looks like 1, the other way round", x.beat(3, 0), 1);
    }

    @Says(in = "Samples", sentence = "A wheel is where it was behind so many samples as it takes, at least 1")
    static void aWheelThatStandsIsWhereItWasBehind1() {
        Due.is("the step 0", withStep(0).wheel(0, 8), 1);
    }

    @Says(in = "Samples", sentence = "65536 divided by the greatest common divisor of 65536 and its step")
    static void theLengthOfARoundOfTheEdges() {
        int[] steps = {1, 2, 3, 32767, 32768, 32769, 16384, 49152, 65534, 65535, 6, 24576};
        int[] lengths = {65536, 32768, 65536, 65536, 2, 65536, 4, 4, 32768, 65536, 32768, 8};
        for (int i = 0; i < steps.length; i++) {
            Due.is("the step " + steps[i], withStep(steps[i]).wheel(0, 8), lengths[i]);
        }
    }

    @Says(in = "Samples", sentence = "with its step of now (sweeps do not matter)")
    static void sweepsDoNotMatterForARound() {
        PhaseTones x = withStep(32768);
        x.sweep(0, 1, 2);
        Due.is("ahead of the sweep", x.wheel(0, 8), 2);
        Due.is("of all wheels", x.count(7), 2);
        x.make(1);
        Due.is("with the step in the middle of it, 16385", x.wheel(0, 8), 65536);
    }
}
