/** Boundary cases of texts, and of the promises 11 and 21 to 23. */
final class TextsBoundaries {
    private TextsBoundaries() {
    }

    private static void dueFault(String text, int fault) {
        PhaseTones x = Boundary.withPad(text);
        Due.is("the length of \"" + text + "\"", x.count(8), text.length());
        Due.is("the fault of \"" + text + "\"", x.fault(), fault);
    }

    private static void dueGood(String... texts) {
        for (String text : texts) {
            dueFault(text, Due.NONE);
        }
    }

    private static void dueRefused(String text) {
        Boundary.refusedOn(() -> busyWithPad(text), "run() of \"" + text + "\"", PhaseTones::run, Due.BAD_TEXT);
    }

    private static PhaseTones busyWithPad(String text) {
        PhaseTones x = Boundary.busy();
        x.wipe();
        Boundary.putAll(x, text);
        return x;
    }

    // ---- texts

    @Says(in = "Texts", sentence = "The pad is a text of at most 60 characters")
    static void aPadOf60CharactersIsReadToItsEnd() {
        dueGood("0v1;0v2;0v3;0v4;0v5;0v6;0v7;0v8;0v9;1v1;1v2;1v3;1v4;1v5;2v16");
        dueFault("0v1;0v2;0v3;0v4;0v5;0v6;0v7;0v8;0v9;1v1;1v2;1v3;1v4;1v5;2v17", 59);
        dueFault("0v1;0v2;0v3;0v4;0v5;0v6;0v7;0v8;0v9;1v1;1v2;1v3;1v4;1v5;1v6;", 60);
        PhaseTones x = Boundary.withFullPad();
        Due.is("run() of 60 characters", x.run(), 15);
        Due.is("the last order is done", x.wheel(2, 3), 16);
    }

    @Says(in = "Texts", sentence = "text = order { \";\" order }")
    static void aTextHasAnOrderAtLeastAndNoneIsEmpty() {
        dueGood("0o", "0o;0o", "0o;0o;0o;0o;0o;0o;0o;0o;0o;0o;0o;0o;0o;0o;0o;0o;0o;0o;0o;0o");
        dueFault("", 0);
        dueFault(";", 0);
        dueFault(";0o", 0);
        dueFault("0o;", 3);
        dueFault("0o;;0o", 3);
        dueFault("0o0o", 2);
    }

    @Says(
        in = "Texts",
        sentence = "order = wheel \"s\" step | wheel \"t\" table | wheel \"v\" volume | wheel \"o\" | wheel \">\" step "
            + "\":\" samples | \".\" samples")
    static void anOrderHasItsSignsAndNoOther() {
        dueGood("0s1", "0t1", "0v1", "0o", "0>1:1", ".1");
        for (char sign : "STVO<.:;ruwnp/!~09".toCharArray()) {
            dueFault("0" + sign + "1", 1);
        }
        for (char sign : "stvo>:;-/!~49".toCharArray()) {
            dueFault(sign + "1", 0);
        }
        dueFault("0>1;1", 3);
        dueFault("0>1.1", 3);
        dueFault("0>1:1:1", 5);
        dueFault("0s1:1", 3);
        dueFault("0o1", 2);
    }

    @Says(in = "Texts", sentence = "step(), table(), volume(), turn() the other way round, sweep(), make().")
    static void theOrderOTurnsTheOtherWayRoundBothWays() {
        PhaseTones x = Boundary.withPad("0o;3o");
        Due.is("run()", x.run(), 2);
        Due.is("the wheel 0 is off, the wheel 3 on", x.count(3), 8);
        Boundary.putAll(x, "0o;3o;3o");
        Due.is("run() again", x.run(), 3);
        Due.is("the wheel 0 is on, the wheel 3 on", x.count(3), 9);
    }

    @Says(in = "Texts", sentence = "step(), table(), volume(), turn() the other way round, sweep(), make().")
    static void theOrdersDoTheLeastAndTheGreatest() {
        PhaseTones x = Boundary.withPad("0s65535;0t3;0v16;1s0;1t0;1v0;2>65535:999;3>0:1;.1;.999");
        Due.is("run()", x.run(), 10);
        int[][] want = {
            {0, 1, 65535}, {0, 2, 3}, {0, 3, 16}, {1, 1, 0}, {1, 2, 0}, {1, 3, 0}, {2, 10, 65535},
            {2, 9, 999}, {3, 10, 0}, {3, 9, 1},
        };
        for (int[] one : want) {
            Due.is("wheel(" + one[0] + ", " + one[1] + ")", x.wheel(one[0], one[1]), one[2]);
        }
        Due.is("samples", x.count(1), 1000);
    }

    @Says(in = "Texts", sentence = "step(), table(), volume(), turn() the other way round, sweep(), make().")
    static void theOrderSDropsAFullRow() {
        PhaseTones x = busyWithPad("3s65535");
        Due.is("sweeps", x.wheel(3, 5), 4);
        Due.is("run()", x.run(), 1);
        Due.is("sweeps then", x.wheel(3, 5), 0);
        Due.is("the step", x.wheel(3, 1), 65535);
    }

    @Says(in = "Texts", sentence = "A wheel and a table are digits 0 to 3")
    static void wheelsAndTablesAreDigits0To3() {
        dueGood("0t0", "3t3", "0o", "3o", "3s1", "3v1", "3>1:1");
        for (String bad : new String[] {"4o", "9o", "/o", ":o", "-1o", "Ao"}) {
            dueFault(bad, 0);
        }
        dueFault("00o", 1);
        dueFault("10o", 1);
        dueFault("0t4", 2);
        dueFault("0t9", 2);
        dueFault("0t/", 2);
        dueFault("0t:", 2);
        dueFault("0t00", 3);
        dueFault("0t33", 3);
    }

    @Says(in = "Texts", sentence = "a step is a number from 0 to 65535")
    static void stepsAreFrom0To65535() {
        dueGood("0s0", "0s9", "0s10", "0s6553", "0s6554", "0s9999", "0s10000", "0s59999", "0s65529", "0s65535");
        dueGood("0>0:1", "0>9999:1", "0>65535:1");
        dueFault("0s65536", 6);
        dueFault("0s65539", 6);
        dueFault("0s65540", 6);
        dueFault("0s66000", 6);
        dueFault("0s70000", 6);
        dueFault("0s99999", 6);
        dueFault("0s100000", 7);
        dueFault("0s655350", 7);
        dueFault("0>65536:1", 6);
        dueFault("0>655350:1", 7);
        dueFault("0s9999999999", 6);
        dueFault("0s-1", 2);
    }

    @Says(in = "Texts", sentence = "a volume one from 0 to 16")
    static void volumesAreFrom0To16() {
        dueGood("0v0", "0v1", "0v9", "0v10", "0v16");
        dueFault("0v17", 3);
        dueFault("0v19", 3);
        dueFault("0v20", 3);
        dueFault("0v90", 3);
        dueFault("0v100", 4);
        dueFault("0v160", 4);
        dueFault("0v-", 2);
    }

    @Says(in = "Texts", sentence = "samples one from 1 to 999")
    static void samplesAreFrom1To999() {
        dueGood(".1", ".9", ".10", ".99", ".100", ".999", "0>1:1", "0>1:999");
        dueFault(".0", 1);
        dueFault(".1000", 4);
        dueFault(".9990", 4);
        dueFault("0>1:0", 4);
        dueFault("0>1:1000", 7);
        dueFault("0>1:9999", 7);
    }

    @Says(in = "Texts", sentence = "without leading zeros")
    static void noNumberHasALeadingZero() {
        dueFault("0s00", 3);
        dueFault("0s01", 3);
        dueFault("0v00", 3);
        dueFault("0v01", 3);
        dueFault("0>00:1", 3);
        dueFault("0>01:1", 3);
        dueFault("0>1:01", 4);
        dueFault("0>1:00", 4);
        dueFault(".01", 1);
        dueFault(".00", 1);
    }

    @Says(
        in = "Texts",
        sentence = "The fault is the index of the first character that cannot stand at its place when the text is read "
            + "from left to right")
    static void theFaultIsTheFirstOfSeveral() {
        dueFault("0x;0y", 1);
        dueFault("0o;0y;4", 4);
        dueFault("4;;", 0);
        dueFault("0>1:1;0>1,1;x", 9);
        dueFault(".1;.x", 4);
        dueFault("0o;0o;0o;0o;0o;0o;0o;0o;0o;0o;0o;0o;0o;0o;0o;0o;0o;0o;0o;0ox", 59);
    }

    @Says(in = "Texts", sentence = "(also of a digit by which a number would be too great)")
    static void theFaultIsTheDigitThatMakesANumberTooGreat() {
        dueFault("0s655366", 6);
        dueFault("0v17;x", 3);
        dueFault("0>1:1000;", 7);
        dueFault(".99999", 4);
        dueFault("1t2;0v161", 8);
    }

    @Says(
        in = "Texts",
        sentence = "if there is none and the text ends too early (also if it is empty), it is the length of the text")
    static void theFaultOfATextThatEndsTooEarlyIsItsLength() {
        String[] texts = {
            "", "0", "3", "0s", "0t", "0v", "0>", "0>1", "0>65535", "0>1:", ".", "0o;", "0o;0", ".1;.", "0s1;",
        };
        for (String text : texts) {
            dueFault(text, text.length());
        }
    }

    // ---- promise 11: run

    @Says(in = "Promise 11: run", sentence = "BAD_TEXT if the pad has a fault.")
    static void runRefusesAnEmptyPad() {
        dueRefused("");
        Boundary.refusedOn(PhaseTones::new, "run() of a new object", PhaseTones::run, Due.BAD_TEXT);
    }

    @Says(in = "Promise 11: run", sentence = "BAD_TEXT if the pad has a fault.")
    static void runRefusesATextThatEndsTooEarly() {
        dueRefused("0v1;0v2;");
        dueRefused("0v1;0");
        dueRefused("1o;.");
    }

    @Says(in = "Promise 11: run", sentence = "BAD_TEXT if the pad has a fault.")
    static void runRefusesAFaultBehindGoodOrders() {
        dueRefused("0v1;.7;0v17");
        dueRefused("1o;0o;4o");
        dueRefused("0s65536");
        dueRefused(".999;.1000");
        dueRefused("0v1;0v2;0v3;0v4;0v5;0v6;0v7;0v8;0v9;1v1;1v2;1v3;1v4;1v5;2v17");
    }

    @Says(in = "Promise 11: run", sentence = "Returns how many orders are done")
    static void runCountsFromNoneTo20() {
        Due.is("one order", Boundary.withPad("0o").run(), 1);
        PhaseTones x = Boundary.withPad(".1;.1;.1;.1;.1;.1;.1;.1;.1;.1;.1;.1;.1;.1;.1;.1;.1;.1;.1;.1");
        Due.is("20 orders", x.run(), 20);
        Due.is("20 samples", x.count(1), 20);
        x = Boundary.busy();
        x.wipe();
        Boundary.putAll(x, "3>1:1;3>2:2");
        Due.is("all are passed over", x.run(), 0);
    }

    @Says(in = "Promise 11: run", sentence = "one for which its method would return an error is passed over")
    static void runPassesOverAFifthSweepAndGoesOn() {
        PhaseTones x = Boundary.withPad("1>1:1;1>2:2;1>3:3;1>4:4;1>5:5;0v3;1o;.1;1>6:6");
        Due.is("run()", x.run(), 8);
        Due.is("the order behind it is done", x.wheel(0, 3), 3);
        Due.is("sweeps", x.wheel(1, 5), 4);
        Due.is("the fifth sweep is not there", x.wheel(1, 9), 2 + 3 + 4 + 6);
        Due.is("one that has room then is", x.wheel(1, 10), 6);
    }

    /** Only beyond 512 calls so many samples can be made. */
    @Says(in = "Promise 11: run", sentence = "one for which its method would return an error is passed over")
    static void runPassesOverTooManySamplesAndGoesOn() {
        PhaseTones x = new PhaseTones();
        for (int i = 0; i < 1000; i++) {
            x.make(999);
        }
        x.make(990);
        Boundary.putAll(x, ".10;.9;.1;0v3");
        Due.is("run()", x.run(), 2);
        Due.is("samples", x.count(1), 999999);
        Due.is("the order behind them is done", x.wheel(0, 3), 3);
    }

    @Says(in = "Promise 11: run", sentence = "Does the orders of the pad, one after the other, and empties the pad")
    static void runEmptiesThePadSoThatItCannotRunAgain() {
        PhaseTones x = Boundary.withPad("0v1;0v2;0v3");
        Due.is("run()", x.run(), 3);
        Due.is("the latest order counts", x.wheel(0, 3), 3);
        Due.is("the pad is empty", x.count(8), 0);
        Due.is("its fault", x.fault(), 0);
        Due.is("run() again", x.run(), Due.BAD_TEXT);
        Due.is("put behind it", x.put('.'), 1);
        Due.is("nothing of the former text is left", x.fault(), 1);
        x = Boundary.busy();
        x.wipe();
        Boundary.putAll(x, "3>1:1");
        Due.is("run() that passes over all", x.run(), 0);
        Due.is("empties the pad, too", x.count(8), 0);
    }

    @Says(in = "Promise 11: run", sentence = "This is a change.")
    static void runIsOneChangeForAllOrders() {
        Boundary.recorded("run() of 8 orders", x -> runOf(x, "0v1;0v2;1s3;2t1;3s9;0>3:3;.9;.8"));
        Boundary.recorded("run() of one order", x -> runOf(x, ".999"));
    }

    @Says(in = "Promise 11: run", sentence = "This is a change.")
    static void runIsRecordedAlsoIfAllIsPassedOver() {
        PhaseTones x = new PhaseTones();
        for (int many = 1; many <= 4; many++) {
            x.sweep(1, many, many);
        }
        String before = Due.soundOf(x);
        Due.is("run()", runOf(x, "1>5:5"), 0);
        Due.is("changes", x.count(9), 5);
        Due.is("undo()", x.undo(), 4);
        Due.isTrue("nothing is different", before.equals(Due.soundOf(x)));
        Boundary.recordedAlthoughTheSame("run() of an order that is so already", y -> runOf(y, "0v8"));
    }

    private static int runOf(PhaseTones x, String text) {
        x.wipe();
        Boundary.putAll(x, text);
        return x.run();
    }

    // ---- promise 21: put

    @Says(in = "Promise 21: put", sentence = "- `characters`: 1 to 8 characters")
    static void putTakesFrom1To8Characters() {
        PhaseTones x = new PhaseTones();
        int length = 0;
        String text = "!~!~!~!~";
        for (int many = 1; many <= 8; many++) {
            length += many;
            Due.is("put of " + many, x.put(Due.packed(text.substring(0, many))), length);
            Due.is("the length", x.count(8), length);
        }
    }

    @Says(
        in = "Promise 21: put",
        sentence = "its lowest 8 bits are the last character, the next 8 bits the one before, and so on")
    static void putAppendsTheHighestFirst() {
        PhaseTones x = new PhaseTones();
        x.put(0x3073L);
        x.put(0x3132333435L);
        Due.is("run() of 0s12345", x.run(), 1);
        Due.is("the step", x.wheel(0, 1), 12345);
        x.put(0x31_73_36_35_35_33_35_3BL);
        x.put(0x32_6FL);
        Due.is("run() of 1s65535;2o", x.run(), 2);
        Due.is("the step of the wheel 1", x.wheel(1, 1), 65535);
        Due.is("wheels that are on", x.count(3), 5);
    }

    @Says(in = "Promise 21: put", sentence = "BAD_VALUE if there is no character")
    static void putRefusesNoCharacter() {
        Boundary.refused("put(0)", x -> x.put(0), Due.BAD_VALUE);
        Boundary.refusedOn(Boundary::withFullPad, "put(0) on a full pad", x -> x.put(0), Due.BAD_VALUE);
    }

    @Says(in = "Promise 21: put", sentence = "a code is not 33 to 126")
    static void putTakesTheLeastAndTheGreatestCode() {
        PhaseTones x = new PhaseTones();
        Due.is("put(33)", x.put(33), 1);
        Due.is("put(126)", x.put(126), 2);
        Due.is("put of 8 of 33", x.put(0x2121212121212121L), 10);
        Due.is("put of 8 of 126", x.put(0x7E7E7E7E7E7E7E7EL), 18);
    }

    @Says(in = "Promise 21: put", sentence = "a code is not 33 to 126")
    static void putRefusesACodeOutOfRangeAtEachPlace() {
        for (long code : new long[] {1, 32, 127, 128, 255}) {
            for (int place = 0; place < 8; place++) {
                long characters = 0x3030303030303030L & ~(255L << 8 * place) | code << 8 * place;
                Boundary.refused("put(" + characters + ")", x -> x.put(characters), Due.BAD_VALUE);
                long shorter = characters & (-1L >>> 8 * (7 - place));
                Due.is("put(" + shorter + ")", new PhaseTones().put(shorter), Due.BAD_VALUE);
            }
        }
    }

    @Says(in = "Promise 21: put", sentence = "or a bit above 8 bits that are 0 is not 0")
    static void putRefusesABitAbove8BitsOf0() {
        for (int place = 0; place < 7; place++) {
            for (int bit = 8 * place + 8; bit < 64; bit++) {
                long characters = 0x3030303030303030L & (1L << 8 * place) - 1 | 1L << bit;
                Due.is("put(" + characters + ")", new PhaseTones().put(characters), Due.BAD_VALUE);
            }
            long above = 0x3030303030303030L & ~(255L << 8 * place);
            Boundary.refused("put(" + above + ")", x -> x.put(above), Due.BAD_VALUE);
        }
    }

    @Says(in = "Promise 21: put", sentence = "BAD_VALUE if there is no character, a code is not 33 to 126")
    static void putRefusesTheLeastAndTheGreatestNumber() {
        for (long characters : new long[] {-1, Long.MIN_VALUE, Long.MAX_VALUE, Integer.MIN_VALUE, Integer.MAX_VALUE}) {
            Boundary.refused("put(" + characters + ")", x -> x.put(characters), Due.BAD_VALUE);
        }
    }

    @Says(in = "Promise 21: put", sentence = "TOO_MANY if the pad would be longer than 60.")
    static void putFillsThePadTo60AndRefusesMore() {
        PhaseTones x = Boundary.withPad("0v1;0v2;0v3;0v4;0v5;0v6;0v7;0v8;0v9;1v1;1v2;1v3;1v4;1v5;");
        Due.is("put of four: 60", x.put(Due.packed("2v16")), 60);
        for (int length = 53; length <= 60; length++) {
            String text = "0v1;0v2;0v3;0v4;0v5;0v6;0v7;0v8;0v9;1v1;1v2;1v3;1v4;1v5;2v16".substring(0, length);
            String tooLong = "1;.1;.1;".substring(0, 61 - length);
            String name = "put of \"" + tooLong + "\" behind " + length;
            Boundary.refusedOn(() -> Boundary.withPad(text), name, y -> y.put(Due.packed(tooLong)), Due.TOO_MANY);
        }
        Boundary.refusedOn(Boundary::withFullPad, "put of 8 on a full pad", y -> y.put(0x3131313131313131L), Due.TOO_MANY);
    }

    @Says(in = "Promise 21: put", sentence = "Returns the length of the pad then; BAD_VALUE")
    static void putOfABadCodeOnAFullPadIsABadValue() {
        Boundary.refusedOn(Boundary::withFullPad, "put(127) on a full pad", x -> x.put(127), Due.BAD_VALUE);
        Boundary.refusedOn(Boundary::withFullPad, "put(0x3000) on a full pad", x -> x.put(0x3000), Due.BAD_VALUE);
    }

    // ---- promise 22: wipe

    @Says(in = "Promise 22: wipe", sentence = "Empties the pad, and returns the length that it had.")
    static void wipeOfAnEmptyPadIs0() {
        PhaseTones x = new PhaseTones();
        Due.is("wipe()", x.wipe(), 0);
        Due.is("the length", x.count(8), 0);
        Boundary.changesNothing(PhaseTones::new, "wipe() of an empty pad", PhaseTones::wipe);
    }

    @Says(in = "Promise 22: wipe", sentence = "Empties the pad, and returns the length that it had.")
    static void wipeOfAFullPadIs60() {
        PhaseTones x = Boundary.withFullPad();
        Due.is("wipe()", x.wipe(), 60);
        Due.is("the length", x.count(8), 0);
        Due.is("the fault", x.fault(), 0);
        Due.is("wipe() again", x.wipe(), 0);
        Boundary.putAll(x, "0o");
        Due.is("a text behind it is good", x.fault(), Due.NONE);
        Due.is("the length then", x.count(8), 2);
    }

    @Says(in = "Promise 22: wipe", sentence = "Empties the pad")
    static void wipeOfAFaultyPadEmptiesItAndNothingElse() {
        Boundary.changesNothing(Boundary::busy, "wipe() and put of the same", x -> {
            x.wipe();
            Boundary.putAll(x, "x");
            x.wipe();
            Boundary.putAll(x, "1v3;0s77;.2");
            return 0;
        });
    }

    // ---- promise 23: fault

    @Says(in = "Promise 23: fault", sentence = "Returns the fault of the pad, NONE if there is none.")
    static void faultIsNoneFrom0To60Characters() {
        dueGood(".1", "0o", "0v1;0v2;0v3;0v4;0v5;0v6;0v7;0v8;0v9;1v1;1v2;1v3;1v4;1v5;2v16");
        Due.is("of a new object", new PhaseTones().fault(), 0);
        dueFault("!", 0);
        dueFault("0v1;0v2;0v3;0v4;0v5;0v6;0v7;0v8;0v9;1v1;1v2;1v3;1v4;1v5;2v1!", 59);
    }

    @Says(in = "Promise 23: fault", sentence = "Returns the fault of the pad, NONE if there is none.")
    static void faultDoesNotAskWhetherAnOrderCanBeDone() {
        PhaseTones x = busyWithPad("3>1:1");
        Due.is("a fifth sweep is no fault", x.fault(), Due.NONE);
        Due.is("it is passed over", x.run(), 0);
    }

    @Says(in = "Promise 23: fault", sentence = "Returns the fault of the pad")
    static void faultChangesNothing() {
        Boundary.changesNothing(Boundary::busy, "fault() of a good text", PhaseTones::fault);
        Boundary.changesNothing(() -> busyWithPad("0v1;0v"), "fault() of a faulty text", PhaseTones::fault);
    }
}
