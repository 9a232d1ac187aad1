/** Boundary cases of the promises 17 to 20: what if. */
final class WhatIfBoundaries {
    private static final int LOW = Boundary.LOW;
    private static final int HIGH = Boundary.HIGH;

    private WhatIfBoundaries() {
    }

    /** A wheel that gives 120 from the sample of this number on, 0 before it. */
    private static PhaseTones loudFrom(int sample) {
        PhaseTones x = new PhaseTones();
        for (int place = 0; place < 15; place++) {
            x.fill(0, place, 0);
        }
        x.step(0, 1);
        x.phase(0, 61440 - (sample - 1));
        return x;
    }

    // ---- promise 17: ifMade

    @Says(in = "Promise 17: ifMade", sentence = "- `samples`: 1 to 2000")
    static void ifMadeTakesTheLeastAndTheGreatest() {
        Due.is("ifMade(1, 0) of a loud next one", loudFrom(1).ifMade(1, 0), 120);
        Due.is("ifMade(1, 0) of a loud second one", loudFrom(2).ifMade(1, 0), 0);
        Due.is("ifMade(2000, 0) of a loud last one", loudFrom(2000).ifMade(2000, 0), 120);
        Due.is("ifMade(2000, 0) of a loud one behind it", loudFrom(2001).ifMade(2000, 0), 0);
        Due.is("ifMade(2000, 3) of a loud last one", loudFrom(2000).ifMade(2000, 3), 120);
    }

    @Says(in = "Promise 17: ifMade", sentence = "BAD_VALUE if an argument is out of range.")
    static void ifMadeRefusesSamplesOutOfRange() {
        for (int samples : new int[] {0, 2001, -1, LOW, HIGH}) {
            Boundary.refused("ifMade(" + samples + ", 0)", x -> x.ifMade(samples, 0), Due.BAD_VALUE);
            Boundary.refused("ifMade(" + samples + ", 3)", x -> x.ifMade(samples, 3), Due.BAD_VALUE);
        }
    }

    @Says(in = "Promise 17: ifMade", sentence = "BAD_VALUE if an argument is out of range.")
    static void ifMadeRefusesWhatOutOfRange() {
        for (int what : new int[] {-1, 4, LOW, HIGH}) {
            Boundary.refused("ifMade(1, " + what + ")", x -> x.ifMade(1, what), Due.BAD_VALUE);
            Boundary.refused("ifMade(2000, " + what + ")", x -> x.ifMade(2000, what), Due.BAD_VALUE);
        }
    }

    @Says(in = "Promise 17: ifMade", sentence = "- `what`: 0 the greatest mixture of them, 1 the least")
    static void ifMadeTellsMixturesFrom0To960() {
        PhaseTones x = new PhaseTones();
        x.turn(0, false);
        Due.is("the greatest without a wheel", x.ifMade(2000, 0), 0);
        Due.is("the least without a wheel", x.ifMade(2000, 1), 0);
        for (int wheel = 0; wheel < 4; wheel++) {
            x.turn(wheel, true);
            x.table(wheel, 2);
            x.volume(wheel, 16);
            x.step(wheel, 0);
        }
        x.clip(960);
        Due.is("the greatest of all that are the greatest", x.ifMade(2000, 0), 960);
        Due.is("the least of all that are the greatest", x.ifMade(2000, 1), 960);
        x.clip(1);
        Due.is("the greatest with the least CLIP", x.ifMade(7, 0), 1);
        Due.is("the least with the least CLIP", x.ifMade(7, 1), 1);
    }

    @Says(in = "Promise 17: ifMade", sentence = "- `what`: 0 the greatest mixture of them, 1 the least")
    static void ifMadeTellsTheFirstTheMiddleAndTheLastSampleApart() {
        PhaseTones x = new PhaseTones();
        x.step(0, 4096);
        x.fill(0, 0, 4);
        x.fill(0, 1, 9);
        x.fill(0, 2, 6);
        int[][] want = {{32, 32, 0, 32}, {72, 32, 0, 72}, {72, 32, 0, 48}, {72, 24, 0, 24}};
        for (int samples = 1; samples <= 4; samples++) {
            for (int what = 0; what < 4; what++) {
                Due.is("ifMade(" + samples + ", " + what + ")", x.ifMade(samples, what), want[samples - 1][what]);
            }
        }
        x.clip(71);
        Due.is("one of them is clipped", x.ifMade(4, 2), 1);
        Due.is("the greatest is clipped", x.ifMade(4, 0), 71);
    }

    @Says(in = "Promise 17: ifMade", sentence = "1 the least, 2 how many of them would be clipped, 3 the latest mixture")
    static void ifMadeLeavesOutWhatWasMadeAndWhatIsOfExactlyClip() {
        PhaseTones x = new PhaseTones();
        x.table(0, 2);
        x.step(0, 0);
        x.clip(119);
        x.make(50);
        Due.is("all of one are clipped", x.ifMade(1, 2), 1);
        Due.is("all of 2000 are clipped", x.ifMade(2000, 2), 2000);
        x.clip(120);
        Due.is("as much as CLIP is not clipped", x.ifMade(2000, 2), 0);
        Due.is("the least is not one that was made", x.ifMade(3, 1), 120);
        x.volume(0, 1);
        Due.is("the greatest is not one that was made", x.ifMade(3, 0), 15);
        Due.is("the latest", x.ifMade(1, 3), 15);
    }

    @Says(in = "Promise 17: ifMade", sentence = "Tells what the next samples would bring.")
    static void ifMadeTellsBeyond999999Samples() {
        PhaseTones x = new PhaseTones();
        for (int i = 0; i < 1001; i++) {
            x.make(999);
        }
        x.turn(0, false);
        x.turn(1, true);
        Due.is("no sample can be made", x.make(999), Due.TOO_MANY);
        Due.is("what would be is told even so", x.ifMade(2000, 0), 120);
    }

    // ---- promise 18: untilClip

    @Says(in = "Promise 18: untilClip", sentence = "Tells behind how many samples, itself counted, the first one is clipped.")
    static void untilClipCountsTheClippedOneItself() {
        for (int sample : new int[] {1, 2, 3, 1999, 2000}) {
            PhaseTones x = loudFrom(sample);
            x.clip(119);
            Due.is("the sample " + sample + " is clipped", x.untilClip(), sample);
        }
    }

    @Says(in = "Promise 18: untilClip", sentence = "Returns how many, 1 to 2000")
    static void untilClipSeesTheSample2000AndNot2001() {
        PhaseTones x = loudFrom(2001);
        x.clip(119);
        Due.is("the sample 2001", x.untilClip(), Due.NONE);
        x.make(1);
        Due.is("the sample 2000", x.untilClip(), 2000);
        x.make(998);
        x.make(999);
        Due.is("the sample 3", x.untilClip(), 3);
        x.make(2);
        Due.is("the next one", x.untilClip(), 1);
        x.make(1);
        Due.is("those before do not count", x.untilClip(), 1);
    }

    @Says(in = "Promise 18: untilClip", sentence = "NONE if none of these is.")
    static void untilClipIsNoneIfNoneIsMoreThanClip() {
        PhaseTones x = new PhaseTones();
        x.clip(120);
        Due.is("as much as CLIP is not clipped", x.untilClip(), Due.NONE);
        x.clip(119);
        x.turn(0, false);
        Due.is("without a wheel", x.untilClip(), Due.NONE);
        x.turn(0, true);
        x.volume(0, 0);
        Due.is("without a volume", x.untilClip(), Due.NONE);
        x.volume(0, 16);
        x.step(0, 0);
        Due.is("a wheel that stands where it is silent", x.untilClip(), Due.NONE);
    }

    @Says(in = "Promise 18: untilClip", sentence = "NONE if none of these is.")
    static void untilClipOfNoneChangesNothing() {
        Boundary.refusedOn(PhaseTones::new, "untilClip() of none", PhaseTones::untilClip, Due.NONE);
    }

    // ---- promise 19: bestStep

    @Says(in = "Promise 19: bestStep", sentence = "- `samples`: 2 to 65536")
    static void bestStepTakesTheLeastAndTheGreatest() {
        PhaseTones x = new PhaseTones();
        Due.is("bestStep(2, 0)", x.bestStep(2, 0), 32768);
        Due.is("bestStep(2, 1)", x.bestStep(2, 1), 2);
        Due.is("bestStep(65536, 0)", x.bestStep(65536, 0), 1);
        Due.is("bestStep(65536, 1)", x.bestStep(65536, 1), 65536);
        Due.is("bestStep(65535, 0)", x.bestStep(65535, 0), 1);
    }

    @Says(in = "Promise 19: bestStep", sentence = "BAD_VALUE if an argument is out of range.")
    static void bestStepRefusesSamplesOutOfRange() {
        for (int samples : new int[] {1, 0, 65537, -1, LOW, HIGH}) {
            Boundary.refused("bestStep(" + samples + ", 0)", x -> x.bestStep(samples, 0), Due.BAD_VALUE);
            Boundary.refused("bestStep(" + samples + ", 1)", x -> x.bestStep(samples, 1), Due.BAD_VALUE);
        }
    }

    @Says(in = "Promise 19: bestStep", sentence = "BAD_VALUE if an argument is out of range.")
    static void bestStepRefusesWhatOutOfRange() {
        for (int what : new int[] {-1, 2, LOW, HIGH}) {
            Boundary.refused("bestStep(2, " + what + ")", x -> x.bestStep(2, what), Due.BAD_VALUE);
            Boundary.refused("bestStep(65536, " + what + ")", x -> x.bestStep(65536, what), Due.BAD_VALUE);
        }
    }

    @Says(in = "Promise 19: bestStep", sentence = "- `what`: 0 the step, 1 that number of samples")
    static void bestStepTellsTheStepAsTheFirstWhatAndItsLengthAsTheLast() {
        PhaseTones x = new PhaseTones();
        Due.is("bestStep(65536, 0)", x.bestStep(65536, 0), 1);
        Due.is("bestStep(65536, 1)", x.bestStep(65536, 1), 65536);
        Due.is("bestStep(5, 0)", x.bestStep(5, 0), 16384);
        Due.is("bestStep(5, 1): not the wanted one, but the nearest", x.bestStep(5, 1), 4);
    }

    @Says(in = "Promise 19: bestStep", sentence = "of several the least step.")
    static void bestStepOfTwoLengthsAsNearIsTheLeast() {
        PhaseTones x = new PhaseTones();
        for (int length = 4; length <= 65536; length *= 2) {
            int middle = length * 3 / 4;
            Due.is("just as near to " + length + " as to its half", x.bestStep(middle, 0), 65536 / length);
            Due.is("its length", x.bestStep(middle, 1), length);
            if (middle > 3) {
                Due.is("one nearer to the half", x.bestStep(middle - 1, 0), 131072 / length);
                Due.is("one nearer to the whole", x.bestStep(middle + 1, 0), 65536 / length);
            }
        }
    }

    @Says(
        in = "Promise 19: bestStep",
        sentence = "Finds the step, 1 to 32768, with which a wheel would be where it was behind a number of samples "
            + "that is the nearest to a wanted one")
    static void bestStepDoesNotDependOnTheWheels() {
        PhaseTones x = new PhaseTones();
        PhaseTones busy = Boundary.busy();
        for (int samples = 2; samples <= 65536; samples *= 2) {
            Due.is("bestStep(" + samples + ", 0)", x.bestStep(samples, 0), 65536 / samples);
            Due.is("bestStep(" + samples + ", 0) when busy", busy.bestStep(samples, 0), 65536 / samples);
            Due.is("bestStep(" + samples + ", 1)", x.bestStep(samples, 1), samples);
        }
    }

    // ---- promise 20: untilRound

    @Says(in = "Promise 20: untilRound", sentence = "NO_SUCH if there is no such wheel")
    static void untilRoundRefusesNoSuchWheel() {
        for (int wheel : Boundary.NO_WHEEL) {
            Boundary.refused("untilRound(" + wheel + ")", x -> x.untilRound(wheel), Due.NO_SUCH);
        }
    }

    @Says(in = "Promise 20: untilRound", sentence = "when its phase has become less than it was in the sample before")
    static void untilRoundSeesThePhaseBecome0() {
        int[][] cases = {
            {65535, 1, 1}, {65534, 1, 2}, {0, 1, 65536}, {1, 65535, 1}, {0, 65535, 2}, {0, 32768, 2},
            {32768, 32768, 1}, {64512, 1024, 1}, {64511, 1024, 2},
        };
        for (int[] one : cases) {
            PhaseTones x = new PhaseTones();
            x.phase(0, one[0]);
            x.step(0, one[1]);
            Due.is("phase " + one[0] + ", step " + one[1], x.untilRound(0), one[2]);
        }
    }

    @Says(in = "Promise 20: untilRound", sentence = "NONE if it does not in these.")
    static void untilRoundIsNoneIfThePhaseStays() {
        PhaseTones x = new PhaseTones();
        x.step(0, 0);
        Due.is("the phase 0", x.untilRound(0), Due.NONE);
        x.phase(0, 65535);
        Due.is("the phase 65535", x.untilRound(0), Due.NONE);
        Boundary.changesNothing(WhatIfBoundaries::withStep0, "untilRound(0) of none", y -> y.untilRound(0));
    }

    private static PhaseTones withStep0() {
        PhaseTones x = new PhaseTones();
        x.step(0, 0);
        return x;
    }

    @Says(in = "Promise 20: untilRound", sentence = "NONE if it does not in these.")
    static void untilRoundIsNoneIfASweepEndsAheadOfIt() {
        PhaseTones x = new PhaseTones();
        x.step(0, 40000);
        x.sweep(0, 0, 1);
        x.phase(0, 25535);
        Due.is("one short of a round", x.untilRound(0), Due.NONE);
        x.phase(0, 25536);
        Due.is("just a round", x.untilRound(0), 1);
    }

    @Says(in = "Promise 20: untilRound", sentence = "if it goes on as it is, sweeps and all (also if it is off)")
    static void untilRoundGoesThroughSweepsAlsoIfOff() {
        PhaseTones x = new PhaseTones();
        x.step(2, 0);
        x.sweep(2, 0, 5);
        x.sweep(2, 32768, 1);
        Due.is("behind sweeps, when it is off", x.untilRound(2), 8);
        x.turn(2, true);
        Due.is("behind sweeps, when it is on", x.untilRound(2), 8);
        x.make(7);
        Due.is("the last sample of them", x.untilRound(2), 1);
        x.make(1);
        Due.is("the phase", x.wheel(2, 0), 0);
    }

    @Says(in = "Promise 20: untilRound", sentence = "if it goes on as it is, sweeps and all")
    static void untilRoundIsSeenInTheMiddleOfASweep() {
        PhaseTones x = new PhaseTones();
        x.step(0, 0);
        x.sweep(0, 60000, 3);
        Due.is("0, 20000, 60000, then round", x.untilRound(0), 4);
        x.phase(0, 5536);
        Due.is("5536, 25536, then round to 0", x.untilRound(0), 3);
    }

    @Says(in = "Promise 20: untilRound", sentence = "Returns how many, 1 to 70000")
    static void untilRoundGoesAsFarAsAnyWheelTakes() {
        PhaseTones x = new PhaseTones();
        x.step(0, 0);
        for (int end : new int[] {0, 0, 0, 1}) {
            x.sweep(0, end, 999);
        }
        Due.is("the farthest round there is", x.untilRound(0), 4 * 999 + 65536);
        x.phase(0, 65535);
        Due.is("with the greatest phase", x.untilRound(0), 4 * 999 + 1);
        x.step(0, 1);
        Due.is("at once", x.untilRound(0), 1);
    }

    // ---- all of them

    @Says(in = "Texts", sentence = "the interface says: ---- what if; nothing changes.")
    static void askingWhatIfChangesNothing() {
        for (int what = 0; what < 4; what++) {
            int one = what;
            Boundary.changesNothing(Boundary::busy, "ifMade(2000, " + one + ")", x -> x.ifMade(2000, one));
            Boundary.changesNothing(PhaseTones::new, "ifMade(1, " + one + ")", x -> x.ifMade(1, one));
            Boundary.changesNothing(Boundary::busy, "untilRound(" + one + ")", x -> x.untilRound(one));
        }
        Boundary.changesNothing(Boundary::busy, "untilClip()", PhaseTones::untilClip);
        Boundary.changesNothing(Boundary::busy, "bestStep(3, 0)", x -> x.bestStep(3, 0));
        Boundary.changesNothing(Boundary::busy, "bestStep(65536, 1)", x -> x.bestStep(65536, 1));
    }
}
