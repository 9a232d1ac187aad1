/** Boundary cases of "What it is", of the conventions, and of the settings. */
final class TermsBoundaries {
    private TermsBoundaries() {
    }

    // ---- what it is

    @Says(in = "What it is", sentence = "An object is used for at most 512 calls after it has been made")
    static void theLastOf512CallsIsAnsweredAsDue() {
        PhaseTones x = new PhaseTones();
        for (int call = 1; call < 512; call++) {
            Due.is("make(999), call " + call, x.make(999), (999 * call - 1) * 1024 % 65536 / 4096 * 8);
        }
        Due.is("count(1), call 512", x.count(1), 511 * 999);
        x = new PhaseTones();
        for (int call = 1; call < 512; call++) {
            Due.is("clip, call " + call, x.clip(call), call == 1 ? 400 : call - 1);
        }
        Due.is("undo(), call 512", x.undo(), 5);
    }

    // ---- conventions

    @Says(
        in = "Terms",
        sentence = "it names its errors in the order in which they are checked, and the first one that applies is returned")
    static void theFirstErrorThatAppliesIsReturned() {
        Boundary.refused("fill(4, 0, 16)", x -> x.fill(4, 0, 16), Due.NO_SUCH);
        Boundary.refused("fill(0, 16, 16)", x -> x.fill(0, 16, 16), Due.NO_SUCH);
        Boundary.refused("step(4, 65536)", x -> x.step(4, 65536), Due.NO_SUCH);
        Boundary.refused("volume(-1, 17)", x -> x.volume(-1, 17), Due.NO_SUCH);
        Boundary.refused("phase(4, -1)", x -> x.phase(4, -1), Due.NO_SUCH);
        Boundary.refused("sweep(4, 65536, 0)", x -> x.sweep(4, 65536, 0), Due.NO_SUCH);
        Boundary.refusedOn(Boundary::busy, "sweep(3, 65536, 1) in a full row", x -> x.sweep(3, 65536, 1), Due.BAD_VALUE);
        Boundary.refusedOn(Boundary::busy, "sweep(3, 0, 1000) in a full row", x -> x.sweep(3, 0, 1000), Due.BAD_VALUE);
        Boundary.refused("wheel(4, 11)", x -> x.wheel(4, 11), Due.NO_SUCH);
    }

    @Says(in = "Terms", sentence = "the first one that applies is returned")
    static void aBadPutOnAFullPadIsABadValue() {
        Boundary.refusedOn(Boundary::withFullPad, "put(0) on a full pad", x -> x.put(0), Due.BAD_VALUE);
        Boundary.refusedOn(Boundary::withFullPad, "put(32) on a full pad", x -> x.put(32), Due.BAD_VALUE);
    }

    @Says(in = "Terms", sentence = "A call that returns an error changes nothing.")
    static void aCallThatReturnsAnErrorChangesNothing() {
        Boundary.refused("clip(0)", x -> x.clip(0), Due.BAD_VALUE);
        Boundary.refused("fill(0, 0, 16)", x -> x.fill(0, 0, 16), Due.BAD_VALUE);
        Boundary.refused("step(0, 65536)", x -> x.step(0, 65536), Due.BAD_VALUE);
        Boundary.refused("table(0, 4)", x -> x.table(0, 4), Due.NO_SUCH);
        Boundary.refused("volume(0, 17)", x -> x.volume(0, 17), Due.BAD_VALUE);
        Boundary.refused("turn(0, true)", x -> x.turn(0, true), Due.NOT_POSSIBLE);
        Boundary.refused("phase(0, 65536)", x -> x.phase(0, 65536), Due.BAD_VALUE);
        Boundary.refused("sweep(0, 65536, 1)", x -> x.sweep(0, 65536, 1), Due.BAD_VALUE);
        Boundary.refused("make(1000)", x -> x.make(1000), Due.BAD_VALUE);
        Boundary.refusedOn(() -> Boundary.withPad("0v1;"), "run() of a text without its end", PhaseTones::run, Due.BAD_TEXT);
        Boundary.refused("wheel(0, 11)", x -> x.wheel(0, 11), Due.BAD_VALUE);
        Boundary.refused("valueOf(0, 16)", x -> x.valueOf(0, 16), Due.NO_SUCH);
        Boundary.refused("sample(32)", x -> x.sample(32), Due.BAD_VALUE);
        Boundary.refused("beat(0, 4)", x -> x.beat(0, 4), Due.NO_SUCH);
        Boundary.refused("count(10)", x -> x.count(10), Due.BAD_VALUE);
        Boundary.refused("ifMade(2001, 0)", x -> x.ifMade(2001, 0), Due.BAD_VALUE);
        Boundary.refused("bestStep(1, 0)", x -> x.bestStep(1, 0), Due.BAD_VALUE);
        Boundary.refused("untilRound(4)", x -> x.untilRound(4), Due.NO_SUCH);
        Boundary.refused("put(0)", x -> x.put(0), Due.BAD_VALUE);
        Boundary.refusedOn(PhaseTones::new, "undo() of nothing", PhaseTones::undo, Due.NOT_POSSIBLE);
        Boundary.refused("save(2)", x -> x.save(2), Due.BAD_VALUE);
        Boundary.refused("restore(2)", x -> x.restore(2), Due.BAD_VALUE);
    }

    @Says(in = "Terms", sentence = "NONE (-6) is not an error; it is returned only if no error applies.")
    static void noneIsReturnedOnlyIfNoErrorApplies() {
        Boundary.refusedOn(PhaseTones::new, "sample(32) without any", x -> x.sample(32), Due.BAD_VALUE);
        Boundary.refusedOn(PhaseTones::new, "sample(31) without any", x -> x.sample(31), Due.NONE);
        PhaseTones x = new PhaseTones();
        x.step(3, 0);
        Due.is("untilRound(4)", x.untilRound(4), Due.NO_SUCH);
        Due.is("untilRound(3) of a wheel that stands", x.untilRound(3), Due.NONE);
    }

    @Says(in = "Terms", sentence = "Everything is numbered from 0.")
    static void theNumber0IsTakenAndTheNumberBehindTheLastIsNot() {
        PhaseTones x = new PhaseTones();
        x.make(1);
        Due.is("fill(0, 0, 1)", x.fill(0, 0, 1), 0);
        Due.is("step(0, 7)", x.step(0, 7), 1024);
        Due.is("table(0, 0)", x.table(0, 0), 0);
        Due.is("wheel(0, 0)", x.wheel(0, 0), 1024);
        Due.is("valueOf(0, 0)", x.valueOf(0, 0), 1);
        Due.is("sample(0)", x.sample(0), 0);
        Due.is("beat(0, 0)", x.beat(0, 0), 0);
        Due.is("count(0)", x.count(0), 400);
        Due.is("save(0)", x.save(0), 1);
        Due.is("fault of the first character", x.fault(), 0);
        Boundary.refused("turn(4, true)", y -> y.turn(4, true), Due.NO_SUCH);
        Boundary.refused("table(0, 4) ", y -> y.table(0, 4), Due.NO_SUCH);
        Boundary.refused("fill(0, 16, 0)", y -> y.fill(0, 16, 0), Due.NO_SUCH);
        Boundary.refused("save(2)", y -> y.save(2), Due.BAD_VALUE);
    }

    @Says(in = "Terms", sentence = "Divisions are rounded down.")
    static void aPhaseDividedBy4096IsRoundedDown() {
        PhaseTones x = new PhaseTones();
        for (int place = 0; place < 16; place++) {
            x.phase(0, 4096 * place);
            Due.is("the first phase of the place " + place, x.wheel(0, 6), place * 8);
            x.phase(0, 4096 * place + 4095);
            Due.is("the last phase of the place " + place, x.wheel(0, 6), place * 8);
        }
    }

    // ---- settings

    @Says(in = "Settings", sentence = "CLIP (1 to 960; 400).")
    static void clipIsFrom1To960And400AtFirst() {
        PhaseTones x = new PhaseTones();
        Due.is("CLIP at first", x.count(0), 400);
        x.clip(1);
        Due.is("the least CLIP", x.count(0), 1);
        x.clip(960);
        Due.is("the greatest CLIP", x.count(0), 960);
        Boundary.refused("clip(0)", y -> y.clip(0), Due.BAD_VALUE);
        Boundary.refused("clip(961)", y -> y.clip(961), Due.BAD_VALUE);
    }

    @Says(in = "Settings", sentence = "There are 4 tables, 0 to 3, each of 16 values, 0 to 15, numbered from 0 to 15.")
    static void thereAre4TablesOf16Values() {
        PhaseTones x = new PhaseTones();
        for (int table = 0; table < 4; table++) {
            for (int place = 0; place < 16; place++) {
                x.fill(table, place, (table + 3 * place) % 16);
            }
        }
        for (int table = 0; table < 4; table++) {
            for (int place = 0; place < 16; place++) {
                Due.is("valueOf(" + table + ", " + place + ")", x.valueOf(table, place), (table + 3 * place) % 16);
            }
        }
        Boundary.refused("fill(4, 0, 0)", y -> y.fill(4, 0, 0), Due.NO_SUCH);
        Boundary.refused("fill(3, 16, 0)", y -> y.fill(3, 16, 0), Due.NO_SUCH);
        Boundary.refused("fill(3, 15, 16)", y -> y.fill(3, 15, 16), Due.BAD_VALUE);
    }

    @Says(
        in = "Settings",
        sentence = "in the table 1, 2 * k, if k is below 8, otherwise 30 less 2 * k; in the table 2, 15, if k is below "
            + "8, otherwise 0")
    static void theFirstTablesTurnAtThePlace8() {
        PhaseTones x = new PhaseTones();
        int[] places = {0, 7, 8, 15};
        int[][] values = {{0, 7, 8, 15}, {0, 14, 14, 0}, {15, 15, 0, 0}, {0, 0, 0, 0}};
        for (int table = 0; table < 4; table++) {
            for (int i = 0; i < 4; i++) {
                Due.is("valueOf(" + table + ", " + places[i] + ")", x.valueOf(table, places[i]), values[table][i]);
            }
        }
    }

    @Says(in = "Settings", sentence = "There are 4 wheels, 0 to 3.")
    static void thereAre4Wheels() {
        PhaseTones x = new PhaseTones();
        for (int wheel = 0; wheel < 4; wheel++) {
            x.step(wheel, 100 + wheel);
        }
        for (int wheel = 0; wheel < 4; wheel++) {
            Due.is("step of the wheel " + wheel, x.wheel(wheel, 1), 100 + wheel);
        }
        for (int bad : Boundary.NO_WHEEL) {
            Boundary.refused("wheel(" + bad + ", 1)", y -> y.wheel(bad, 1), Due.NO_SUCH);
        }
    }

    @Says(
        in = "Settings",
        sentence = "A wheel has a phase, 0 to 65535 (0 at first), a step, 0 to 65535 (1024 at first), a table (0 at "
            + "first), a volume, 0 to 16 (8 at first)")
    static void aWheelTakesTheLeastAndTheGreatest() {
        int[] first = {0, 1024, 0, 8};
        int[] greatest = {65535, 65535, 3, 16};
        for (int wheel = 0; wheel < 4; wheel++) {
            PhaseTones x = new PhaseTones();
            for (int what = 0; what < 4; what++) {
                Due.is("wheel(" + wheel + ", " + what + ") at first", x.wheel(wheel, what), first[what]);
            }
            Due.is("the greatest phase", x.phase(wheel, 65535), 0);
            Due.is("the greatest step", x.step(wheel, 65535), 1024);
            Due.is("the greatest table", x.table(wheel, 3), 0);
            Due.is("the greatest volume", x.volume(wheel, 16), 8);
            for (int what = 0; what < 4; what++) {
                Due.is("wheel(" + wheel + ", " + what + ") at most", x.wheel(wheel, what), greatest[what]);
            }
            Due.is("the least phase", x.phase(wheel, 0), 65535);
            Due.is("the least step", x.step(wheel, 0), 65535);
            Due.is("the least table", x.table(wheel, 0), 3);
            Due.is("the least volume", x.volume(wheel, 0), 16);
            for (int what = 0; what < 4; what++) {
                Due.is("wheel(" + wheel + ", " + what + ") at least", x.wheel(wheel, what), 0);
            }
        }
    }

    @Says(in = "Settings", sentence = "it is on or off (the wheel 0 is on at first)")
    static void onlyTheWheel0IsOnAtFirst() {
        PhaseTones x = new PhaseTones();
        for (int wheel = 0; wheel < 4; wheel++) {
            Due.is("wheel(" + wheel + ", 4)", x.wheel(wheel, 4), wheel == 0 ? 1 : 0);
        }
        Due.is("count(3)", x.count(3), 1);
    }

    @Says(in = "Settings", sentence = "it has up to 4 sweeps in a row")
    static void aWheelHasUpTo4Sweeps() {
        PhaseTones x = new PhaseTones();
        Due.is("no sweep at first", x.wheel(2, 5), 0);
        for (int many = 1; many <= 4; many++) {
            Due.is("sweep " + many, x.sweep(2, 10 * many, many), many);
        }
        String before = Due.soundOf(x);
        Due.is("a fifth sweep", x.sweep(2, 50, 5), Due.TOO_MANY);
        Due.isTrue("a fifth sweep changes nothing", before.equals(Due.soundOf(x)));
        Due.is("4 sweeps", x.wheel(2, 5), 4);
    }
}
