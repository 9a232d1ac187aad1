/** Boundary cases of the promises 12 to 16: what there is. */
final class QuestionsBoundaries {
    private static final int LOW = Boundary.LOW;
    private static final int HIGH = Boundary.HIGH;

    private QuestionsBoundaries() {
    }

    // ---- promise 12: wheel

    @Says(in = "Promise 12: wheel", sentence = "NO_SUCH if there is no such wheel")
    static void wheelRefusesNoSuchWheel() {
        for (int wheel : Boundary.NO_WHEEL) {
            Boundary.refused("wheel(" + wheel + ", 0)", x -> x.wheel(wheel, 0), Due.NO_SUCH);
            Boundary.refused("wheel(" + wheel + ", 11)", x -> x.wheel(wheel, 11), Due.NO_SUCH);
        }
    }

    @Says(in = "Promise 12: wheel", sentence = "BAD_VALUE if what is out of range.")
    static void wheelRefusesWhatOutOfRange() {
        for (int what : new int[] {-1, 11, LOW, HIGH}) {
            Boundary.refused("wheel(0, " + what + ")", x -> x.wheel(0, what), Due.BAD_VALUE);
            Boundary.refused("wheel(3, " + what + ")", x -> x.wheel(3, what), Due.BAD_VALUE);
        }
    }

    @Says(in = "Promise 12: wheel", sentence = "- `what`: 0 its phase, 1 its step, 2 its table, 3 its volume")
    static void wheelTellsTheFirstAndTheLastNumberOfWhat() {
        PhaseTones x = new PhaseTones();
        x.phase(3, 65535);
        x.step(3, 9);
        Due.is("wheel(3, 0)", x.wheel(3, 0), 65535);
        Due.is("wheel(3, 10)", x.wheel(3, 10), 9);
    }

    @Says(in = "Promise 12: wheel", sentence = "4 whether it is on (1 or 0)")
    static void wheelTellsOnAs1AndOffAs0() {
        PhaseTones x = new PhaseTones();
        Due.is("of one that is on", x.wheel(0, 4), 1);
        x.turn(0, false);
        Due.is("of the same, off", x.wheel(0, 4), 0);
        Due.is("of one that was never on", x.wheel(3, 4), 0);
        x.turn(3, true);
        Due.is("of the same, on", x.wheel(3, 4), 1);
    }

    @Says(in = "Promise 12: wheel", sentence = "5 its sweeps, how many")
    static void wheelTellsFromNoSweepTo4() {
        PhaseTones x = new PhaseTones();
        for (int many = 0; many <= 4; many++) {
            Due.is("sweeps", x.wheel(1, 5), many);
            x.sweep(1, 0, 1);
        }
        Due.is("sweeps behind a refused one", x.wheel(1, 5), 4);
    }

    @Says(in = "Promise 12: wheel", sentence = "6 the value that it would give in the next sample, if it was on")
    static void wheelTellsTheValueAlsoIfItIsOffAndNotClipped() {
        PhaseTones x = new PhaseTones();
        x.clip(1);
        x.phase(2, 65535);
        x.volume(2, 16);
        Due.is("of a wheel that is off", x.wheel(2, 6), 240);
        x.turn(2, true);
        Due.is("of the same, on", x.wheel(2, 6), 240);
        x.volume(2, 0);
        Due.is("without a volume", x.wheel(2, 6), 0);
    }

    @Says(in = "Promise 12: wheel", sentence = "7 the image of its step")
    static void wheelTellsTheImageOfAStepAt32768() {
        PhaseTones x = new PhaseTones();
        x.step(2, 32768);
        Due.is("image of 32768", x.wheel(2, 7), 32768);
        x.step(2, 32769);
        Due.is("image of 32769", x.wheel(2, 7), 32767);
        x.step(2, 0);
        Due.is("image of 0", x.wheel(2, 7), 0);
    }

    @Says(in = "Promise 12: wheel", sentence = "8 behind how many samples it is where it was")
    static void wheelTellsALengthFrom1To65536() {
        PhaseTones x = new PhaseTones();
        x.phase(1, 12345);
        x.step(1, 0);
        Due.is("of the step 0", x.wheel(1, 8), 1);
        x.step(1, 65535);
        Due.is("of the step 65535", x.wheel(1, 8), 65536);
        x.step(1, 32768);
        Due.is("of the step 32768", x.wheel(1, 8), 2);
    }

    @Says(in = "Promise 12: wheel", sentence = "9 how many samples its sweeps take still, together")
    static void wheelTellsSamplesFromNoneTo3996() {
        PhaseTones x = new PhaseTones();
        Due.is("without a sweep", x.wheel(0, 9), 0);
        for (int many = 1; many <= 4; many++) {
            x.sweep(0, many, 999);
            Due.is("with " + many, x.wheel(0, 9), 999 * many);
        }
        x.make(998);
        Due.is("ahead of the end of the first", x.wheel(0, 9), 2998);
        x.make(1);
        Due.is("at the end of the first", x.wheel(0, 9), 2997);
        x.make(1);
        Due.is("in the second", x.wheel(0, 9), 2996);
        x.step(0, 1);
        Due.is("when they are dropped", x.wheel(0, 9), 0);
    }

    @Says(in = "Promise 12: wheel", sentence = "10 the step behind all its sweeps")
    static void wheelTellsTheStepBehindNoSweepAndBehind4() {
        PhaseTones x = new PhaseTones();
        x.step(0, 77);
        Due.is("without a sweep", x.wheel(0, 10), 77);
        for (int many = 1; many <= 4; many++) {
            x.sweep(0, 100 * many, 1);
            Due.is("with " + many, x.wheel(0, 10), 100 * many);
        }
        x.make(3);
        Due.is("with the last one alone", x.wheel(0, 10), 400);
        x.make(1);
        Due.is("behind the last one", x.wheel(0, 10), 400);
    }

    // ---- promise 13: valueOf

    @Says(in = "Promise 13: valueOf", sentence = "NO_SUCH if there is no such table or place.")
    static void valueOfRefusesNoSuchTable() {
        for (int table : Boundary.NO_WHEEL) {
            Boundary.refused("valueOf(" + table + ", 0)", x -> x.valueOf(table, 0), Due.NO_SUCH);
            Boundary.refused("valueOf(" + table + ", 15)", x -> x.valueOf(table, 15), Due.NO_SUCH);
        }
    }

    @Says(in = "Promise 13: valueOf", sentence = "NO_SUCH if there is no such table or place.")
    static void valueOfRefusesNoSuchPlace() {
        for (int place : Boundary.NO_PLACE) {
            Boundary.refused("valueOf(0, " + place + ")", x -> x.valueOf(0, place), Due.NO_SUCH);
            Boundary.refused("valueOf(3, " + place + ")", x -> x.valueOf(3, place), Due.NO_SUCH);
        }
    }

    @Says(in = "Promise 13: valueOf", sentence = "Returns the value")
    static void valueOfTellsTheFirstAndTheLastPlace() {
        PhaseTones x = new PhaseTones();
        x.fill(0, 0, 3);
        x.fill(3, 15, 15);
        Due.is("valueOf(0, 0)", x.valueOf(0, 0), 3);
        Due.is("valueOf(0, 15)", x.valueOf(0, 15), 15);
        Due.is("valueOf(1, 0)", x.valueOf(1, 0), 0);
        Due.is("valueOf(3, 0)", x.valueOf(3, 0), 0);
        Due.is("valueOf(3, 14)", x.valueOf(3, 14), 0);
        Due.is("valueOf(3, 15)", x.valueOf(3, 15), 15);
    }

    // ---- promise 14: sample

    @Says(in = "Promise 14: sample", sentence = "BAD_VALUE if ago is out of range")
    static void sampleRefusesAgoOutOfRange() {
        for (int ago : new int[] {-1, 32, LOW, HIGH}) {
            Boundary.refused("sample(" + ago + ")", x -> x.sample(ago), Due.BAD_VALUE);
        }
    }

    @Says(in = "Promise 14: sample", sentence = "NONE if there were not so many.")
    static void sampleIsNoneAheadOfTheFirst() {
        for (int ago = 0; ago < 32; ago++) {
            int one = ago;
            Boundary.refusedOn(PhaseTones::new, "sample(" + one + ") without any", x -> x.sample(one), Due.NONE);
        }
    }

    @Says(in = "Promise 14: sample", sentence = "NONE if there were not so many.")
    static void sampleIsNoneJustBehindTheFirst() {
        PhaseTones x = new PhaseTones();
        x.step(0, 4096);
        for (int made = 1; made <= 32; made++) {
            x.make(1);
            Due.is("the first of " + made, x.sample(made - 1), 0);
            if (made < 32) {
                Due.is("the one ahead of the first of " + made, x.sample(made), Due.NONE);
            }
        }
    }

    @Says(in = "Promise 14: sample", sentence = "- `ago`: 0 for the latest one, 1 for the one before, and so on to 31")
    static void sampleTellsThe32LatestOfMore() {
        PhaseTones x = new PhaseTones();
        x.step(0, 4096);
        int made = 0;
        for (int many : new int[] {31, 1, 1, 30, 1, 1, 999}) {
            x.make(many);
            made += many;
            for (int ago = 0; ago < Math.min(32, made); ago++) {
                Due.is("sample(" + ago + ") of " + made, x.sample(ago), (made - 1 - ago) % 16 * 8);
            }
        }
    }

    @Says(in = "Promise 14: sample", sentence = "Returns a mixture that was made.")
    static void sampleTellsWhatWasMadeNotWhatWouldBeMade() {
        PhaseTones x = new PhaseTones();
        x.table(0, 2);
        x.clip(119);
        x.make(1);
        x.clip(1);
        x.volume(0, 0);
        Due.is("sample(0) behind changes", x.sample(0), 119);
        x.ifMade(2000, 0);
        Due.is("sample(0) behind a question", x.sample(0), 119);
    }

    // ---- promise 15: beat

    @Says(in = "Promise 15: beat", sentence = "NO_SUCH if there is no such wheel.")
    static void beatRefusesNoSuchWheel() {
        for (int wheel : Boundary.NO_WHEEL) {
            Boundary.refused("beat(" + wheel + ", 0)", x -> x.beat(wheel, 0), Due.NO_SUCH);
            Boundary.refused("beat(3, " + wheel + ")", x -> x.beat(3, wheel), Due.NO_SUCH);
            Boundary.refused("beat(" + wheel + ", " + wheel + ")", x -> x.beat(wheel, wheel), Due.NO_SUCH);
        }
    }

    @Says(in = "Promise 15: beat", sentence = "Returns the beat of two wheels, on or off.")
    static void beatIsTheSameOnOrOff() {
        PhaseTones x = new PhaseTones();
        x.step(0, 65535);
        x.step(3, 32768);
        Due.is("one off", x.beat(0, 3), 32767);
        x.turn(0, false);
        Due.is("both off", x.beat(3, 0), 32767);
        x.turn(0, true);
        x.turn(3, true);
        Due.is("both on", x.beat(0, 3), 32767);
        Due.is("a wheel with itself", x.beat(3, 3), 0);
    }

    // ---- promise 16: count

    @Says(in = "Promise 16: count", sentence = "BAD_VALUE if what is out of range.")
    static void countRefusesWhatOutOfRange() {
        for (int what : new int[] {-1, 10, LOW, HIGH}) {
            Boundary.refused("count(" + what + ")", x -> x.count(what), Due.BAD_VALUE);
        }
    }

    @Says(in = "Promise 16: count", sentence = "- `what`: 0 CLIP, 1 samples made so far")
    static void countTellsClipAndSamplesFromNone() {
        PhaseTones x = new PhaseTones();
        Due.is("no sample", x.count(1), 0);
        x.clip(960);
        Due.is("CLIP", x.count(0), 960);
        x.make(999);
        Due.is("999 samples", x.count(1), 999);
    }

    @Says(in = "Promise 16: count", sentence = "2 those of them that were clipped")
    static void countOfClippedLeavesOutThoseOfExactlyClip() {
        PhaseTones x = new PhaseTones();
        x.clip(120);
        x.make(64);
        Due.is("as much as CLIP", x.count(2), 0);
        x.clip(119);
        x.make(64);
        Due.is("one more than CLIP", x.count(2), 4);
        x.clip(960);
        Due.is("another CLIP later", x.count(2), 4);
    }

    @Says(in = "Promise 16: count", sentence = "3 wheels that are on, as a bit mask")
    static void countOfTheMaskGoesFrom0To15() {
        PhaseTones x = new PhaseTones();
        x.turn(0, false);
        Due.is("none", x.count(3), 0);
        int mask = 0;
        for (int wheel = 3; wheel >= 0; wheel--) {
            x.turn(wheel, true);
            mask |= 1 << wheel;
            Due.is("with the wheel " + wheel, x.count(3), mask);
        }
    }

    @Says(in = "Promise 16: count", sentence = "4 the mixture that would be made next")
    static void countOfTheNextMixtureIsClippedAndMakesNothing() {
        PhaseTones x = new PhaseTones();
        x.phase(0, 65535);
        x.clip(120);
        Due.is("as much as CLIP", x.count(4), 120);
        x.clip(119);
        Due.is("clipped", x.count(4), 119);
        Due.is("the same again", x.count(4), 119);
        Due.is("no sample is made", x.count(1), 0);
        Due.is("none is clipped so far", x.count(2), 0);
        x.turn(0, false);
        Due.is("without a wheel", x.count(4), 0);
    }

    @Says(in = "Promise 16: count", sentence = "5 the sum of all mixtures so far, left over by 1000003")
    static void countOfTheSumWrapsAroundAt1000003() {
        for (int last = 642; last <= 644; last++) {
            PhaseTones x = new PhaseTones();
            for (int wheel = 0; wheel < 4; wheel++) {
                x.turn(wheel, true);
                x.table(wheel, 2);
                x.volume(wheel, 16);
                x.step(wheel, 0);
            }
            x.clip(960);
            x.make(999);
            x.make(42);
            Due.is("1041 mixtures of 960", x.count(5), 999360);
            x.clip(last);
            x.make(1);
            Due.is("and one of " + last, x.count(5), (999360 + last) % 1000003);
        }
    }

    @Says(in = "Promise 16: count", sentence = "6 how often the mixture became greater than it was in the sample before, so far")
    static void countOfRisesLeavesOutTheFirstAndEqualOnes() {
        PhaseTones x = new PhaseTones();
        x.table(0, 2);
        x.step(0, 32768);
        x.make(1);
        Due.is("the first has none before it", x.count(6), 0);
        x.make(1);
        Due.is("a fall", x.count(6), 0);
        x.make(1);
        Due.is("a rise over two calls", x.count(6), 1);
        x.step(0, 0);
        x.make(5);
        Due.is("a fall, then equal ones", x.count(6), 1);
        x.volume(0, 7);
        x.phase(0, 0);
        x.make(2);
        Due.is("a rise, then an equal one", x.count(6), 2);
    }

    @Says(in = "Promise 16: count", sentence = "6 how often the mixture became greater than it was in the sample before, so far")
    static void countOfRisesBeginsWithTheSecondSample() {
        PhaseTones x = new PhaseTones();
        x.step(0, 4096);
        x.make(1);
        Due.is("behind the first sample", x.count(6), 0);
        x.make(1);
        Due.is("behind the second, greater by 8", x.count(6), 1);
        x.make(14);
        Due.is("behind the last one of a round", x.count(6), 15);
        x.make(1);
        Due.is("behind the fall to 0", x.count(6), 15);
        x = new PhaseTones();
        x.phase(0, 65535);
        x.make(1);
        Due.is("a first sample that is not 0", x.count(6), 0);
    }

    @Says(in = "Promise 16: count", sentence = "6 how often the mixture became greater than it was in the sample before, so far")
    static void countOfRisesIsOfTheClippedMixtures() {
        PhaseTones x = new PhaseTones();
        x.clip(8);
        x.make(64);
        Due.is("only the rise to CLIP", x.count(6), 1);
        x.make(5);
        Due.is("and that of the next round", x.count(6), 2);
    }

    @Says(
        in = "Promise 16: count",
        sentence = "7 behind how many samples all wheels that are on are where they were together (1 without any)")
    static void countOfTheCommonRoundGoesFrom1To65536() {
        PhaseTones x = new PhaseTones();
        x.turn(0, false);
        Due.is("without any wheel", x.count(7), 1);
        x.step(1, 65535);
        Due.is("a wheel that is off does not matter", x.count(7), 1);
        x.turn(2, true);
        x.step(2, 0);
        Due.is("a wheel that stands", x.count(7), 1);
        x.turn(3, true);
        x.step(3, 32768);
        Due.is("with one of 2", x.count(7), 2);
        x.turn(1, true);
        Due.is("with one of 65536", x.count(7), 65536);
    }

    @Says(in = "Promise 16: count", sentence = "8 the length of the pad")
    static void countOfThePadGoesFrom0To60() {
        PhaseTones x = new PhaseTones();
        Due.is("an empty pad", x.count(8), 0);
        Due.is("a full pad", Boundary.withFullPad().count(8), 60);
        x = Boundary.withFullPad();
        x.put(48);
        Due.is("behind a refused put", x.count(8), 60);
        x.wipe();
        Due.is("a wiped pad", x.count(8), 0);
    }

    @Says(in = "Promise 16: count", sentence = "9 how many changes can be undone")
    static void countOfChangesGoesFrom0To6() {
        PhaseTones x = new PhaseTones();
        for (int changes = 0; changes <= 8; changes++) {
            Due.is("behind " + changes + " changes", x.count(9), Math.min(6, changes));
            x.clip(5);
            x.clip(0);
        }
        for (int left = 5; left >= 0; left--) {
            x.undo();
            Due.is("behind an undo", x.count(9), left);
        }
        x.undo();
        Due.is("behind a refused undo", x.count(9), 0);
    }

    // ---- all of them

    @Says(in = "Texts", sentence = "the interface says: ---- what there is; nothing changes.")
    static void askingWhatThereIsChangesNothing() {
        for (int what = 0; what <= 10; what++) {
            int one = what;
            Boundary.changesNothing(Boundary::busy, "wheel(0, " + one + ")", x -> x.wheel(0, one));
            Boundary.changesNothing(Boundary::busy, "count(" + one + ")", x -> x.count(one));
        }
        Boundary.changesNothing(Boundary::busy, "valueOf(3, 15)", x -> x.valueOf(3, 15));
        Boundary.changesNothing(Boundary::busy, "sample(31)", x -> x.sample(31));
        Boundary.changesNothing(Boundary::busy, "beat(0, 3)", x -> x.beat(0, 3));
    }
}
