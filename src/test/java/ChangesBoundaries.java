/** Boundary cases of the promises 2 to 10: the changes, but for run(). */
final class ChangesBoundaries {
    private static final int LOW = Boundary.LOW;
    private static final int HIGH = Boundary.HIGH;

    private ChangesBoundaries() {
    }

    // ---- promise 2: clip

    @Says(in = "Promise 2: clip", sentence = "- `value`: 1 to 960")
    static void clipTakesTheLeastAndTheGreatest() {
        PhaseTones x = new PhaseTones();
        x.table(0, 2);
        Due.is("clip(1)", x.clip(1), 400);
        Due.is("the mixture is at most 1", x.make(1), 1);
        Due.is("clip(960)", x.clip(960), 1);
        Due.is("the mixture is its sum", x.make(1), 120);
    }

    @Says(in = "Promise 2: clip", sentence = "BAD_VALUE if value is out of range.")
    static void clipRefusesTooSmall() {
        for (int value : new int[] {0, -1, LOW}) {
            Boundary.refused("clip(" + value + ")", x -> x.clip(value), Due.BAD_VALUE);
        }
    }

    @Says(in = "Promise 2: clip", sentence = "BAD_VALUE if value is out of range.")
    static void clipRefusesTooGreat() {
        for (int value : new int[] {961, HIGH}) {
            Boundary.refused("clip(" + value + ")", x -> x.clip(value), Due.BAD_VALUE);
        }
    }

    @Says(in = "Promise 2: clip", sentence = "Returns the previous value")
    static void clipReturnsThePreviousValueNotARefusedOne() {
        PhaseTones x = new PhaseTones();
        x.clip(7);
        x.clip(961);
        Due.is("clip(8) behind a refused one", x.clip(8), 7);
        Due.is("clip(8) again", x.clip(8), 8);
    }

    @Says(in = "Promise 2: clip", sentence = "This is a change.")
    static void clipIsRecorded() {
        Boundary.recorded("clip(1)", x -> x.clip(1));
        Boundary.recordedAlthoughTheSame("clip(1)", x -> x.clip(1));
    }

    // ---- promise 3: fill

    @Says(in = "Promise 3: fill", sentence = "- `place`: 0 to 15")
    static void fillTakesTheFirstAndTheLastPlace() {
        PhaseTones x = new PhaseTones();
        Due.is("fill(0, 0, 9)", x.fill(0, 0, 9), 0);
        Due.is("fill(0, 15, 8)", x.fill(0, 15, 8), 15);
        Due.is("fill(3, 0, 7)", x.fill(3, 0, 7), 0);
        Due.is("fill(3, 15, 6)", x.fill(3, 15, 6), 0);
        int[][] want = {
            {0, 0, 9}, {0, 1, 1}, {0, 14, 14}, {0, 15, 8}, {1, 0, 0}, {2, 15, 0}, {3, 0, 7}, {3, 1, 0},
            {3, 14, 0}, {3, 15, 6},
        };
        for (int[] one : want) {
            Due.is("valueOf(" + one[0] + ", " + one[1] + ")", x.valueOf(one[0], one[1]), one[2]);
        }
    }

    @Says(in = "Promise 3: fill", sentence = "- `value`: 0 to 15")
    static void fillTakesTheLeastAndTheGreatestValue() {
        PhaseTones x = new PhaseTones();
        Due.is("fill(2, 15, 15)", x.fill(2, 15, 15), 0);
        Due.is("fill(2, 15, 0)", x.fill(2, 15, 0), 15);
        Due.is("valueOf(2, 15)", x.valueOf(2, 15), 0);
    }

    @Says(in = "Promise 3: fill", sentence = "Returns the previous value")
    static void fillReturnsThePreviousValueNotARefusedOne() {
        PhaseTones x = new PhaseTones();
        x.fill(1, 7, 3);
        x.fill(1, 7, 16);
        Due.is("fill(1, 7, 4) behind a refused one", x.fill(1, 7, 4), 3);
        Due.is("fill(1, 7, 4) again", x.fill(1, 7, 4), 4);
    }

    @Says(in = "Promise 3: fill", sentence = "NO_SUCH if there is no such table or place")
    static void fillRefusesNoSuchTable() {
        for (int table : Boundary.NO_WHEEL) {
            Boundary.refused("fill(" + table + ", 0, 1)", x -> x.fill(table, 0, 1), Due.NO_SUCH);
            Boundary.refused("fill(" + table + ", 15, 99)", x -> x.fill(table, 15, 99), Due.NO_SUCH);
        }
    }

    @Says(in = "Promise 3: fill", sentence = "NO_SUCH if there is no such table or place")
    static void fillRefusesNoSuchPlace() {
        for (int place : Boundary.NO_PLACE) {
            Boundary.refused("fill(0, " + place + ", 1)", x -> x.fill(0, place, 1), Due.NO_SUCH);
            Boundary.refused("fill(3, " + place + ", -1)", x -> x.fill(3, place, -1), Due.NO_SUCH);
        }
    }

    @Says(in = "Promise 3: fill", sentence = "BAD_VALUE if value is out of range.")
    static void fillRefusesAValueOutOfRange() {
        for (int value : new int[] {-1, 16, LOW, HIGH}) {
            Boundary.refused("fill(0, 0, " + value + ")", x -> x.fill(0, 0, value), Due.BAD_VALUE);
        }
    }

    @Says(in = "Promise 3: fill", sentence = "This is a change.")
    static void fillIsRecorded() {
        Boundary.recorded("fill(3, 15, 15)", x -> x.fill(3, 15, 15));
        Boundary.recordedAlthoughTheSame("fill(0, 0, 15)", x -> x.fill(0, 0, 15));
    }

    // ---- promise 4: step

    @Says(in = "Promise 4: step", sentence = "- `step`: 0 to 65535")
    static void stepTakesTheLeastAndTheGreatest() {
        PhaseTones x = new PhaseTones();
        Due.is("step(0, 0)", x.step(0, 0), 1024);
        x.make(5);
        Due.is("the phase stays with the step 0", x.wheel(0, 0), 0);
        Due.is("step(0, 65535)", x.step(0, 65535), 0);
        x.make(2);
        Due.is("the phase goes back by 1 with the step 65535", x.wheel(0, 0), 65534);
        Due.is("step(3, 65535)", x.step(3, 65535), 1024);
        Due.is("step(3, 0)", x.step(3, 0), 65535);
    }

    @Says(in = "Promise 4: step", sentence = "Changes the step of a wheel; its sweeps are dropped.")
    static void stepDropsAFullRow() {
        PhaseTones x = Boundary.busy();
        Due.is("4 sweeps", x.wheel(3, 5), 4);
        int others = x.wheel(0, 5);
        int step = x.wheel(3, 1);
        Due.is("step(3, 77)", x.step(3, 77), step);
        Due.is("no sweep is left", x.wheel(3, 5), 0);
        Due.is("no sample of one", x.wheel(3, 9), 0);
        Due.is("the step behind them", x.wheel(3, 10), 77);
        x.make(20);
        Due.is("the step stays", x.wheel(3, 1), 77);
        Due.is("sweeps of another wheel stay", others, 2);
        Due.is("the row has room again", x.sweep(3, 1, 1), 1);
    }

    @Says(in = "Promise 4: step", sentence = "its sweeps are dropped")
    static void stepDropsSweepsAlsoIfItIsTheStepOfNow() {
        PhaseTones x = new PhaseTones();
        x.sweep(0, 5, 9);
        Due.is("step(0, 1024)", x.step(0, 1024), 1024);
        Due.is("no sweep is left", x.wheel(0, 5), 0);
    }

    @Says(in = "Promise 4: step", sentence = "Returns the previous step")
    static void stepReturnsTheSweptStep() {
        PhaseTones x = new PhaseTones();
        x.sweep(0, 1027, 3);
        x.make(2);
        x.step(0, 65536);
        Due.is("step(0, 3) in a sweep", x.step(0, 3), 1026);
        Due.is("step(0, 3) again", x.step(0, 3), 3);
    }

    @Says(in = "Promise 4: step", sentence = "NO_SUCH if there is no such wheel")
    static void stepRefusesNoSuchWheel() {
        for (int wheel : Boundary.NO_WHEEL) {
            Boundary.refused("step(" + wheel + ", 1)", x -> x.step(wheel, 1), Due.NO_SUCH);
            Boundary.refused("step(" + wheel + ", -1)", x -> x.step(wheel, -1), Due.NO_SUCH);
        }
    }

    @Says(in = "Promise 4: step", sentence = "BAD_VALUE if step is out of range.")
    static void stepRefusesAStepOutOfRange() {
        for (int step : new int[] {-1, 65536, LOW, HIGH}) {
            for (int wheel = 0; wheel < 4; wheel++) {
                int one = wheel;
                Boundary.refused("step(" + one + ", " + step + ")", x -> x.step(one, step), Due.BAD_VALUE);
            }
        }
    }

    @Says(in = "Promise 4: step", sentence = "This is a change.")
    static void stepIsRecorded() {
        Boundary.recorded("step(0, 65535)", x -> x.step(0, 65535));
        Boundary.recorded("step(3, 0), which drops a full row", x -> x.step(3, 0));
        Boundary.recordedAlthoughTheSame("step(0, 1024)", x -> x.step(0, 1024));
    }

    // ---- promise 5: table

    @Says(in = "Promise 5: table", sentence = "Returns the previous table")
    static void tableTakesTheFirstAndTheLast() {
        PhaseTones x = new PhaseTones();
        x.fill(3, 0, 11);
        Due.is("table(0, 3)", x.table(0, 3), 0);
        Due.is("the last table gives", x.make(1), 88);
        x.table(0, 4);
        Due.is("table(0, 0) behind a refused one", x.table(0, 0), 3);
        Due.is("the first table gives", x.make(1), 0);
        Due.is("table(3, 3)", x.table(3, 3), 0);
        Due.is("table(3, 3) again", x.table(3, 3), 3);
    }

    @Says(in = "Promise 5: table", sentence = "NO_SUCH if there is no such wheel or table.")
    static void tableRefusesNoSuchWheel() {
        for (int wheel : Boundary.NO_WHEEL) {
            Boundary.refused("table(" + wheel + ", 1)", x -> x.table(wheel, 1), Due.NO_SUCH);
        }
    }

    @Says(in = "Promise 5: table", sentence = "NO_SUCH if there is no such wheel or table.")
    static void tableRefusesNoSuchTable() {
        for (int table : Boundary.NO_WHEEL) {
            Boundary.refused("table(0, " + table + ")", x -> x.table(0, table), Due.NO_SUCH);
            Boundary.refused("table(3, " + table + ")", x -> x.table(3, table), Due.NO_SUCH);
        }
    }

    @Says(in = "Promise 5: table", sentence = "This is a change.")
    static void tableIsRecorded() {
        Boundary.recorded("table(0, 2)", x -> x.table(0, 2));
        Boundary.recordedAlthoughTheSame("table(0, 0)", x -> x.table(0, 0));
    }

    // ---- promise 6: volume

    @Says(in = "Promise 6: volume", sentence = "- `volume`: 0 to 16")
    static void volumeTakesTheLeastAndTheGreatest() {
        PhaseTones x = new PhaseTones();
        x.phase(0, 65535);
        Due.is("volume(0, 16)", x.volume(0, 16), 8);
        Due.is("the mixture with it", x.count(4), 240);
        Due.is("volume(0, 0)", x.volume(0, 0), 16);
        Due.is("the mixture without any", x.count(4), 0);
        Due.is("volume(3, 16)", x.volume(3, 16), 8);
        Due.is("volume(3, 0)", x.volume(3, 0), 16);
    }

    @Says(in = "Promise 6: volume", sentence = "Returns the previous one")
    static void volumeReturnsThePreviousOneNotARefusedOne() {
        PhaseTones x = new PhaseTones();
        x.volume(2, 5);
        x.volume(2, 17);
        Due.is("volume(2, 6) behind a refused one", x.volume(2, 6), 5);
        Due.is("volume(2, 6) again", x.volume(2, 6), 6);
    }

    @Says(in = "Promise 6: volume", sentence = "NO_SUCH if there is no such wheel")
    static void volumeRefusesNoSuchWheel() {
        for (int wheel : Boundary.NO_WHEEL) {
            Boundary.refused("volume(" + wheel + ", 1)", x -> x.volume(wheel, 1), Due.NO_SUCH);
            Boundary.refused("volume(" + wheel + ", 17)", x -> x.volume(wheel, 17), Due.NO_SUCH);
        }
    }

    @Says(in = "Promise 6: volume", sentence = "BAD_VALUE if volume is out of range.")
    static void volumeRefusesAVolumeOutOfRange() {
        for (int volume : new int[] {-1, 17, LOW, HIGH}) {
            Boundary.refused("volume(0, " + volume + ")", x -> x.volume(0, volume), Due.BAD_VALUE);
            Boundary.refused("volume(3, " + volume + ")", x -> x.volume(3, volume), Due.BAD_VALUE);
        }
    }

    @Says(in = "Promise 6: volume", sentence = "This is a change.")
    static void volumeIsRecorded() {
        Boundary.recorded("volume(0, 0)", x -> x.volume(0, 0));
        Boundary.recordedAlthoughTheSame("volume(0, 8)", x -> x.volume(0, 8));
    }

    // ---- promise 7: turn

    @Says(in = "Promise 7: turn", sentence = "Returns how many wheels are on then")
    static void turnCountsFromNoneToAll() {
        PhaseTones x = new PhaseTones();
        Due.is("turn(0, false): none is on", x.turn(0, false), 0);
        for (int wheel = 3; wheel >= 0; wheel--) {
            Due.is("turn(" + wheel + ", true)", x.turn(wheel, true), 4 - wheel);
        }
        Due.is("turn(0, false)", x.turn(0, false), 3);
        Due.is("turn(3, false)", x.turn(3, false), 2);
    }

    @Says(in = "Promise 7: turn", sentence = "Turns a wheel on, or off; its phase stays.")
    static void turnLeavesPhaseStepAndSweeps() {
        PhaseTones x = new PhaseTones();
        x.phase(0, 65535);
        x.sweep(0, 0, 2);
        x.turn(0, false);
        x.make(50);
        Due.is("turn(0, true)", x.turn(0, true), 1);
        Due.is("its phase", x.wheel(0, 0), 65535);
        Due.is("its step", x.wheel(0, 1), 1024);
        Due.is("its sweeps", x.wheel(0, 9), 2);
    }

    @Says(in = "Promise 7: turn", sentence = "NO_SUCH if there is no such wheel")
    static void turnRefusesNoSuchWheel() {
        for (int wheel : Boundary.NO_WHEEL) {
            Boundary.refused("turn(" + wheel + ", true)", x -> x.turn(wheel, true), Due.NO_SUCH);
            Boundary.refused("turn(" + wheel + ", false)", x -> x.turn(wheel, false), Due.NO_SUCH);
        }
    }

    @Says(in = "Promise 7: turn", sentence = "NOT_POSSIBLE if it is so already.")
    static void turnRefusesAWheelThatIsOnAlready() {
        Boundary.refused("turn(0, true)", x -> x.turn(0, true), Due.NOT_POSSIBLE);
    }

    @Says(in = "Promise 7: turn", sentence = "NOT_POSSIBLE if it is so already.")
    static void turnRefusesAWheelThatIsOffAlready() {
        Boundary.refused("turn(1, false)", x -> x.turn(1, false), Due.NOT_POSSIBLE);
        Boundary.refused("turn(2, false)", x -> x.turn(2, false), Due.NOT_POSSIBLE);
    }

    @Says(in = "Promise 7: turn", sentence = "This is a change.")
    static void turnIsRecorded() {
        Boundary.recorded("turn(0, false)", x -> x.turn(0, false));
        Boundary.recorded("turn(2, true)", x -> x.turn(2, true));
    }

    // ---- promise 8: phase

    @Says(in = "Promise 8: phase", sentence = "- `phase`: 0 to 65535")
    static void phaseTakesTheLeastAndTheGreatest() {
        PhaseTones x = new PhaseTones();
        Due.is("phase(0, 65535)", x.phase(0, 65535), 0);
        Due.is("the value of the greatest", x.count(4), 120);
        Due.is("phase(0, 0)", x.phase(0, 0), 65535);
        Due.is("the value of the least", x.count(4), 0);
        Due.is("phase(3, 65535)", x.phase(3, 65535), 0);
        Due.is("phase(3, 0)", x.phase(3, 0), 65535);
    }

    @Says(in = "Promise 8: phase", sentence = "Returns the previous one")
    static void phaseReturnsWhereTheWheelHasGone() {
        PhaseTones x = new PhaseTones();
        x.phase(0, 65535);
        x.make(1);
        x.phase(0, 65536);
        Due.is("phase(0, 4) behind a wrap-around", x.phase(0, 4), 1023);
        Due.is("phase(0, 4) again", x.phase(0, 4), 4);
    }

    @Says(in = "Promise 8: phase", sentence = "NO_SUCH if there is no such wheel")
    static void phaseRefusesNoSuchWheel() {
        for (int wheel : Boundary.NO_WHEEL) {
            Boundary.refused("phase(" + wheel + ", 1)", x -> x.phase(wheel, 1), Due.NO_SUCH);
            Boundary.refused("phase(" + wheel + ", 65536)", x -> x.phase(wheel, 65536), Due.NO_SUCH);
        }
    }

    @Says(in = "Promise 8: phase", sentence = "BAD_VALUE if phase is out of range.")
    static void phaseRefusesAPhaseOutOfRange() {
        for (int phase : new int[] {-1, 65536, LOW, HIGH}) {
            Boundary.refused("phase(0, " + phase + ")", x -> x.phase(0, phase), Due.BAD_VALUE);
            Boundary.refused("phase(3, " + phase + ")", x -> x.phase(3, phase), Due.BAD_VALUE);
        }
    }

    @Says(in = "Promise 8: phase", sentence = "This is a change.")
    static void phaseIsRecorded() {
        Boundary.recorded("phase(0, 65535)", x -> x.phase(0, 65535));
        Boundary.recordedAlthoughTheSame("phase(0, 0)", x -> x.phase(0, 0));
    }

    // ---- promise 9: sweep

    @Says(in = "Promise 9: sweep", sentence = "- `end`: 0 to 65535: the step at which it ends")
    static void sweepTakesTheLeastAndTheGreatestEnd() {
        PhaseTones x = new PhaseTones();
        Due.is("sweep(0, 65535, 1)", x.sweep(0, 65535, 1), 1);
        x.make(1);
        Due.is("the step is 65535", x.wheel(0, 1), 65535);
        Due.is("sweep(0, 0, 1)", x.sweep(0, 0, 1), 1);
        x.make(1);
        Due.is("the step is 0", x.wheel(0, 1), 0);
    }

    @Says(in = "Promise 9: sweep", sentence = "- `samples`: 1 to 999")
    static void sweepTakesTheLeastAndTheGreatestSamples() {
        PhaseTones x = new PhaseTones();
        Due.is("sweep(0, 5, 1)", x.sweep(0, 5, 1), 1);
        Due.is("sweep(0, 6, 999)", x.sweep(0, 6, 999), 2);
        Due.is("samples of both", x.wheel(0, 9), 1000);
        x.make(1);
        Due.is("the first is done", x.wheel(0, 5), 1);
        x.make(998);
        Due.is("the second is not", x.wheel(0, 5), 1);
        x.make(1);
        Due.is("the second is done", x.wheel(0, 5), 0);
    }

    @Says(in = "Promise 9: sweep", sentence = "Returns how many sweeps the wheel has then")
    static void sweepCountsFrom1To4() {
        PhaseTones x = new PhaseTones();
        for (int wheel = 3; wheel >= 0; wheel--) {
            for (int many = 1; many <= 4; many++) {
                Due.is("sweep " + many + " of the wheel " + wheel, x.sweep(wheel, many, 10), many);
            }
        }
    }

    @Says(in = "Promise 9: sweep", sentence = "NO_SUCH if there is no such wheel")
    static void sweepRefusesNoSuchWheel() {
        for (int wheel : Boundary.NO_WHEEL) {
            Boundary.refused("sweep(" + wheel + ", 1, 1)", x -> x.sweep(wheel, 1, 1), Due.NO_SUCH);
            Boundary.refused("sweep(" + wheel + ", -1, 0)", x -> x.sweep(wheel, -1, 0), Due.NO_SUCH);
        }
    }

    @Says(in = "Promise 9: sweep", sentence = "BAD_VALUE if end or samples is out of range")
    static void sweepRefusesAnEndOutOfRange() {
        for (int end : new int[] {-1, 65536, LOW, HIGH}) {
            Boundary.refused("sweep(0, " + end + ", 1)", x -> x.sweep(0, end, 1), Due.BAD_VALUE);
            Boundary.refused("sweep(3, " + end + ", 999)", x -> x.sweep(3, end, 999), Due.BAD_VALUE);
        }
    }

    @Says(in = "Promise 9: sweep", sentence = "BAD_VALUE if end or samples is out of range")
    static void sweepRefusesSamplesOutOfRange() {
        for (int samples : new int[] {0, 1000, -1, LOW, HIGH}) {
            Boundary.refused("sweep(0, 0, " + samples + ")", x -> x.sweep(0, 0, samples), Due.BAD_VALUE);
            Boundary.refused("sweep(3, 65535, " + samples + ")", x -> x.sweep(3, 65535, samples), Due.BAD_VALUE);
        }
    }

    @Says(in = "Promise 9: sweep", sentence = "TOO_MANY if it has 4.")
    static void sweepRefusesAFifth() {
        Boundary.refusedOn(Boundary::busy, "a fifth sweep", x -> x.sweep(3, 0, 1), Due.TOO_MANY);
        Boundary.refusedOn(Boundary::busy, "a fifth sweep of the greatest", x -> x.sweep(3, 65535, 999), Due.TOO_MANY);
    }

    @Says(in = "Promise 9: sweep", sentence = "TOO_MANY if it has 4.")
    static void sweepHasRoomAgainBehindTheFirst() {
        PhaseTones x = new PhaseTones();
        for (int many = 1; many <= 4; many++) {
            x.sweep(0, many, 2);
        }
        x.make(1);
        Due.is("a fifth sweep ahead of the last sample", x.sweep(0, 9, 9), Due.TOO_MANY);
        x.make(1);
        Due.is("a sweep behind it", x.sweep(0, 9, 9), 4);
        Due.is("the step behind all of them", x.wheel(0, 10), 9);
        Due.is("one more", x.sweep(0, 9, 9), Due.TOO_MANY);
        Due.is("another wheel has room", x.sweep(1, 9, 9), 1);
    }

    @Says(in = "Promise 9: sweep", sentence = "Adds a sweep behind those that a wheel has.")
    static void sweepsOfAFullRowComeInTheirOrder() {
        PhaseTones x = new PhaseTones();
        for (int many = 1; many <= 4; many++) {
            x.sweep(0, 1000 * many, many);
        }
        x.make(1);
        Due.is("behind the first", x.wheel(0, 1), 1000);
        x.make(2);
        Due.is("behind the second", x.wheel(0, 1), 2000);
        x.make(3);
        Due.is("behind the third", x.wheel(0, 1), 3000);
        x.make(4);
        Due.is("behind the fourth", x.wheel(0, 1), 4000);
        Due.is("the row is empty", x.wheel(0, 5), 0);
    }

    @Says(in = "Promise 9: sweep", sentence = "Adds a sweep behind those that a wheel has.")
    static void aSweepAddedInTheMiddleOfOneLeavesItAsItIs() {
        PhaseTones x = new PhaseTones();
        x.sweep(0, 1424, 4);
        x.make(1);
        x.sweep(0, 0, 1);
        Due.is("samples of both", x.wheel(0, 9), 4);
        int[] steps = {1224, 1324, 1424, 0};
        for (int step : steps) {
            x.make(1);
            Due.is("the step", x.wheel(0, 1), step);
        }
        Due.is("both are done", x.wheel(0, 5), 0);
    }

    @Says(in = "Promise 9: sweep", sentence = "This is a change.")
    static void sweepIsRecorded() {
        Boundary.recorded("sweep(0, 0, 999)", x -> x.sweep(0, 0, 999));
        Boundary.recorded("sweep(1, 65535, 1)", x -> x.sweep(1, 65535, 1));
    }

    // ---- promise 10: make

    @Says(in = "Promise 10: make", sentence = "- `samples`: 1 to 999")
    static void makeTakesTheLeastAndTheGreatest() {
        PhaseTones x = new PhaseTones();
        Due.is("make(999)", x.make(999), 998 * 1024 % 65536 / 4096 * 8);
        Due.is("samples", x.count(1), 999);
        Due.is("make(1)", x.make(1), 999 * 1024 % 65536 / 4096 * 8);
        Due.is("samples then", x.count(1), 1000);
    }

    @Says(in = "Promise 10: make", sentence = "Returns the latest mixture")
    static void makeReturnsTheMixtureAsItIsClipped() {
        PhaseTones x = new PhaseTones();
        x.clip(1);
        Due.is("make(60): the last one is clipped", x.make(60), 1);
        x.turn(0, false);
        Due.is("make(1) without a wheel", x.make(1), 0);
        Due.is("samples", x.count(1), 61);
    }

    @Says(in = "Promise 10: make", sentence = "BAD_VALUE if samples is out of range")
    static void makeRefusesSamplesOutOfRange() {
        for (int samples : new int[] {0, 1000, -1, LOW, HIGH}) {
            Boundary.refused("make(" + samples + ")", x -> x.make(samples), Due.BAD_VALUE);
        }
    }

    /** Only beyond 512 calls so many samples can be made: no other test of this sentence is possible. */
    @Says(in = "Promise 10: make", sentence = "TOO_MANY if there would be more than 999999.")
    static void makeRefusesMoreThan999999() {
        PhaseTones x = new PhaseTones();
        for (int i = 0; i < 1001; i++) {
            x.make(998);
        }
        x.make(999);
        Due.is("samples", x.count(1), 999997);
        String before = Due.soundOf(x);
        Due.is("three more", x.make(3), Due.TOO_MANY);
        Due.is("999 more", x.make(999), Due.TOO_MANY);
        Due.is("a bad value comes first", x.make(1000), Due.BAD_VALUE);
        Due.isTrue("too many change nothing", before.equals(Due.soundOf(x)));
        Due.is("undo() of the latest change, which is not a refused one", x.undo(), 5);
        x.make(999);
        Due.is("two more", x.make(2), (int) (999998L * 1024 % 65536 / 4096 * 8));
        Due.is("all samples", x.count(1), 999999);
        Due.is("one more", x.make(1), Due.TOO_MANY);
        Due.is("samples at last", x.count(1), 999999);
    }

    @Says(in = "Promise 10: make", sentence = "This is a change.")
    static void makeIsRecorded() {
        Boundary.recorded("make(1)", x -> x.make(1));
        Boundary.recorded("make(999)", x -> x.make(999));
    }
}
