/** Boundary cases of the promises 1 and 24 to 26: a new object, undo, save and restore. */
final class HistoryBoundaries {
    private static final int LOW = Boundary.LOW;
    private static final int HIGH = Boundary.HIGH;

    private HistoryBoundaries() {
    }

    // ---- promise 1: a new object

    @Says(in = "Promise 1: A new object", sentence = "Creates a tone maker, ahead of the first sample.")
    static void aNewObjectHasNoSampleNoTextNoHistoryAndNoSlot() {
        PhaseTones x = new PhaseTones();
        int[] want = {400, 0, 0, 1, 0, 0, 0, 64, 0, 0};
        for (int what = 0; what < want.length; what++) {
            Due.is("count(" + what + ")", x.count(what), want[what]);
        }
        Due.is("sample(0)", x.sample(0), Due.NONE);
        Due.is("fault()", x.fault(), 0);
        Due.is("undo()", x.undo(), Due.NOT_POSSIBLE);
        Due.is("restore(0)", x.restore(0), Due.NOT_POSSIBLE);
        Due.is("restore(1)", x.restore(1), Due.NOT_POSSIBLE);
        Due.is("the phase", x.wheel(0, 0), 0);
    }

    @Says(in = "Promise 1: A new object", sentence = "Creates a tone maker, ahead of the first sample.")
    static void aNewObjectIsNotChangedByAnother() {
        PhaseTones x = new PhaseTones();
        String before = Due.soundOf(x);
        Boundary.busy();
        Due.isTrue("it is as it was", before.equals(Due.soundOf(x)));
        Due.is("its pad", x.count(8), 0);
        Due.is("its history", x.count(9), 0);
        Due.is("its slots", x.restore(0), Due.NOT_POSSIBLE);
    }

    // ---- promise 24: undo

    @Says(in = "Promise 24: undo", sentence = "NOT_POSSIBLE if there is none.")
    static void undoRefusesAnEmptyHistory() {
        Boundary.refusedOn(PhaseTones::new, "undo() of nothing", PhaseTones::undo, Due.NOT_POSSIBLE);
    }

    @Says(in = "Promise 24: undo", sentence = "NOT_POSSIBLE if there is none.")
    static void undoRefusesWhenAllIsUndone() {
        Boundary.refusedOn(HistoryBoundaries::busyAndUndone, "undo() of all", PhaseTones::undo, Due.NOT_POSSIBLE);
    }

    private static PhaseTones busyAndUndone() {
        PhaseTones x = Boundary.busy();
        for (int i = 0; i < 6; i++) {
            x.undo();
        }
        return x;
    }

    @Says(in = "Promise 24: undo", sentence = "Returns how many changes can be undone then")
    static void undoCountsDownTo0() {
        for (int changes = 1; changes <= 6; changes++) {
            PhaseTones x = new PhaseTones();
            for (int i = 1; i <= changes; i++) {
                x.clip(i);
            }
            for (int left = changes - 1; left >= 0; left--) {
                Due.is("undo() of " + (left + 1), x.undo(), left);
                Due.is("CLIP then", x.count(0), left == 0 ? 400 : left);
            }
            Due.is("undo() of none", x.undo(), Due.NOT_POSSIBLE);
            Due.is("CLIP is still the first one", x.count(0), 400);
        }
    }

    @Says(in = "Promise 24: undo", sentence = "A history of at most 6 states is kept")
    static void undoGoesBack6ChangesAndNotASeventh() {
        for (int changes = 6; changes <= 20; changes++) {
            PhaseTones x = new PhaseTones();
            for (int i = 1; i <= changes; i++) {
                x.clip(i);
            }
            for (int left = 5; left >= 0; left--) {
                Due.is("undo() behind " + changes, x.undo(), left);
            }
            Due.is("CLIP ahead of the latest 6 of " + changes, x.count(0), changes == 6 ? 400 : changes - 6);
            Due.is("a seventh undo()", x.undo(), Due.NOT_POSSIBLE);
        }
    }

    @Says(in = "Promise 24: undo", sentence = "when one more is recorded, the oldest one is dropped")
    static void aFullHistoryDropsTheOldestState() {
        PhaseTones x = new PhaseTones();
        for (int i = 1; i <= 6; i++) {
            x.clip(i);
        }
        Due.is("a full history", x.count(9), 6);
        x.volume(0, 0);
        Due.is("it stays full", x.count(9), 6);
        for (int left = 5; left >= 0; left--) {
            Due.is("undo()", x.undo(), left);
            Due.is("CLIP then", x.count(0), left + 1);
        }
        Due.is("the state with CLIP 400 is dropped", x.undo(), Due.NOT_POSSIBLE);
    }

    @Says(in = "Promise 24: undo", sentence = "records the state before it (also if nothing is different then)")
    static void aChangeThatMakesNothingDifferentIsRecorded() {
        Boundary.recordedAlthoughTheSame("clip(400)", x -> x.clip(400));
        Boundary.recordedAlthoughTheSame("fill(0, 0, 0)", x -> x.fill(0, 0, 0));
        Boundary.recordedAlthoughTheSame("step(3, 1024)", x -> x.step(3, 1024));
        Boundary.recordedAlthoughTheSame("table(3, 0)", x -> x.table(3, 0));
        Boundary.recordedAlthoughTheSame("volume(3, 8)", x -> x.volume(3, 8));
        Boundary.recordedAlthoughTheSame("phase(3, 0)", x -> x.phase(3, 0));
        Boundary.recordedAlthoughTheSame("save(0) and restore(0)", HistoryBoundaries::saveAndRestore);
    }

    private static int saveAndRestore(PhaseTones x) {
        x.save(0);
        return x.restore(0);
    }

    @Says(in = "Promise 24: undo", sentence = "each method that is a change, and returns no error, records the state before it")
    static void aRefusedChangeRecordsNothing() {
        PhaseTones x = new PhaseTones();
        x.clip(5);
        int[] answers = {
            x.clip(0), x.fill(4, 0, 0), x.step(0, -1), x.table(0, 4), x.volume(0, 17), x.turn(0, true), x.phase(0, -1),
            x.sweep(0, 0, 0), x.make(0), x.run(), x.restore(0), x.restore(2),
        };
        for (int answer : answers) {
            Due.isTrue("it is refused", answer < 0);
        }
        Due.is("changes", x.count(9), 1);
        Due.is("undo()", x.undo(), 0);
        Due.is("CLIP", x.count(0), 400);
    }

    @Says(in = "Promise 24: undo", sentence = "each method that is a change, and returns no error, records the state before it")
    static void whatIsNoChangeRecordsNothing() {
        PhaseTones x = new PhaseTones();
        x.clip(5);
        x.put(Due.packed("0o"));
        x.fault();
        x.wipe();
        x.save(0);
        x.ifMade(9, 0);
        x.untilClip();
        x.untilRound(0);
        x.bestStep(9, 0);
        Due.is("changes", x.count(9), 1);
        x.undo();
        Due.is("changes behind an undo", x.count(9), 0);
    }

    @Says(in = "Promise 24: undo", sentence = "everything except the pad, the slots and the history is as it was before it")
    static void undoLeavesThePadAsItIs() {
        PhaseTones x = new PhaseTones();
        x.put(Due.packed("0v1"));
        x.clip(5);
        x.put(Due.packed(";0v2"));
        x.undo();
        Due.is("what was put before and behind the change", x.count(8), 7);
        x.clip(6);
        x.run();
        x.undo();
        Due.is("a text that was run does not come back", x.count(8), 0);
        Due.is("what it did is undone", x.wheel(0, 3), 8);
    }

    @Says(in = "Promise 24: undo", sentence = "everything except the pad, the slots and the history is as it was before it")
    static void undoLeavesTheSlotsAsTheyAre() {
        PhaseTones x = new PhaseTones();
        x.make(3);
        x.save(0);
        x.make(4);
        x.save(1);
        x.undo();
        x.undo();
        Due.is("samples", x.count(1), 0);
        Due.is("restore(1)", x.restore(1), 7);
        Due.is("restore(0)", x.restore(0), 3);
        Due.is("undo() of a restore", x.undo(), 1);
        Due.is("samples then", x.count(1), 7);
        Due.is("restore(0) again", x.restore(0), 3);
    }

    @Says(
        in = "Promise 24: undo",
        sentence = "Undoes the latest change: everything except the pad, the slots and the history is as it was before it.")
    static void undoBringsBackSamplesSweepsAndCounts() {
        PhaseTones x = new PhaseTones();
        x.sweep(0, 30000, 20);
        x.sweep(0, 5, 3);
        x.clip(50);
        x.make(10);
        String before = Due.soundOf(x);
        x.make(999);
        x.undo();
        Due.isTrue("all is as it was", before.equals(Due.soundOf(x)));
        x.make(5);
        PhaseTones y = new PhaseTones();
        y.sweep(0, 30000, 20);
        y.sweep(0, 5, 3);
        y.clip(50);
        y.make(15);
        Due.isTrue("it goes on from there", Due.soundOf(x).equals(Due.soundOf(y)));
    }

    @Says(in = "Promise 24: undo", sentence = "Undoes the latest change")
    static void undoIsNoChangeThatCanBeUndone() {
        PhaseTones x = new PhaseTones();
        x.clip(1);
        x.clip(2);
        x.undo();
        x.undo();
        Due.is("CLIP", x.count(0), 400);
        x.clip(3);
        Due.is("changes behind two undone ones", x.count(9), 1);
        x.undo();
        Due.is("CLIP again", x.count(0), 400);
    }

    // ---- promise 25: save

    @Says(in = "Promise 25: save", sentence = "- `slot`: 0 or 1")
    static void saveTakesBothSlots() {
        PhaseTones x = new PhaseTones();
        x.make(1);
        Due.is("save(0)", x.save(0), 1);
        x.make(1);
        Due.is("save(1)", x.save(1), 2);
        Due.is("restore(0)", x.restore(0), 1);
        Due.is("restore(1)", x.restore(1), 2);
    }

    @Says(in = "Promise 25: save", sentence = "BAD_VALUE if there is no such slot.")
    static void saveRefusesNoSuchSlot() {
        for (int slot : new int[] {-1, 2, LOW, HIGH}) {
            Boundary.refused("save(" + slot + ")", x -> x.save(slot), Due.BAD_VALUE);
        }
    }

    @Says(in = "Promise 25: save", sentence = "Returns how many samples were made")
    static void saveReturns0AheadOfTheFirstSample() {
        PhaseTones x = new PhaseTones();
        Due.is("save(0) ahead of the first sample", x.save(0), 0);
        x.make(999);
        Due.is("save(0) behind 999", x.save(0), 999);
        x.undo();
        Due.is("save(0) behind an undo", x.save(0), 0);
    }

    @Says(in = "Promise 25: save", sentence = "overwrites what was saved there")
    static void saveOverwritesItsSlotAndNotTheOther() {
        PhaseTones x = new PhaseTones();
        x.save(0);
        x.make(1);
        x.save(1);
        x.make(1);
        x.save(0);
        Due.is("restore(1)", x.restore(1), 1);
        Due.is("restore(0)", x.restore(0), 2);
    }

    @Says(in = "Promise 25: save", sentence = "Saves everything except the pad, the history and the slots in a slot")
    static void saveIsAtOnceAndLaterChangesDoNotReachIt() {
        PhaseTones x = Boundary.busy();
        String before = Due.soundOf(x);
        x.save(0);
        x.fill(1, 1, 9);
        x.step(3, 9);
        x.phase(1, 9);
        x.sweep(0, 9, 9);
        x.make(99);
        x.clip(9);
        x.restore(0);
        Due.isTrue("all is as it was", before.equals(Due.soundOf(x)));
    }

    @Says(in = "Promise 25: save", sentence = "Saves everything except the pad, the history and the slots in a slot")
    static void saveKeepsNeitherPadNorHistoryNorSlots() {
        PhaseTones x = new PhaseTones();
        x.clip(1);
        x.put(Due.packed("0o"));
        x.save(1);
        x.save(0);
        x.clip(2);
        x.wipe();
        x.put(Due.packed("0v1"));
        x.make(5);
        x.save(1);
        x.restore(0);
        Due.is("the pad is the later one", x.count(8), 3);
        Due.is("the history goes on", x.count(9), 4);
        Due.is("the other slot is the later one", x.restore(1), 5);
    }

    @Says(in = "Promise 25: save", sentence = "Saves everything")
    static void saveChangesNothingButTheSlot() {
        PhaseTones x = Boundary.busy();
        PhaseTones y = Boundary.busy();
        x.save(0);
        x.save(1);
        Due.isTrue("the sound stays", Due.soundOf(x).equals(Due.soundOf(y)));
        Due.is("the pad stays", x.count(8), y.count(8));
        for (int left = 5; left >= 0; left--) {
            Due.is("undo() behind saves", x.undo(), left);
            y.undo();
            Due.is("CLIP then", x.count(0), y.count(0));
            Due.is("samples then", x.count(1), y.count(1));
            Due.is("sum then", x.count(5), y.count(5));
        }
    }

    // ---- promise 26: restore

    @Says(in = "Promise 26: restore", sentence = "- `slot`: 0 or 1")
    static void restoreTakesBothSlots() {
        PhaseTones x = Boundary.busy();
        Due.is("restore(0)", x.restore(0), 5);
        Due.is("restore(1)", x.restore(1), 45);
    }

    @Says(in = "Promise 26: restore", sentence = "BAD_VALUE if there is no such slot")
    static void restoreRefusesNoSuchSlot() {
        for (int slot : new int[] {-1, 2, LOW, HIGH}) {
            Boundary.refused("restore(" + slot + ")", x -> x.restore(slot), Due.BAD_VALUE);
        }
    }

    @Says(in = "Promise 26: restore", sentence = "NOT_POSSIBLE if nothing was saved in it.")
    static void restoreRefusesAnEmptySlot() {
        Boundary.refusedOn(PhaseTones::new, "restore(0) of nothing", x -> x.restore(0), Due.NOT_POSSIBLE);
        Boundary.refusedOn(PhaseTones::new, "restore(1) of nothing", x -> x.restore(1), Due.NOT_POSSIBLE);
        for (int slot = 0; slot < 2; slot++) {
            int other = 1 - slot;
            Boundary.refusedOn(() -> savedIn(1 - other), "restore(" + other + ")", x -> x.restore(other), Due.NOT_POSSIBLE);
        }
    }

    private static PhaseTones savedIn(int slot) {
        PhaseTones x = new PhaseTones();
        x.make(9);
        x.save(slot);
        x.make(8);
        return x;
    }

    @Says(in = "Promise 26: restore", sentence = "NOT_POSSIBLE if nothing was saved in it.")
    static void restoreTakesASlotThatWasSavedAheadOfTheFirstSample() {
        PhaseTones x = new PhaseTones();
        x.save(1);
        Due.is("restore(1) at once", x.restore(1), 0);
        x.make(40);
        Due.is("restore(1) later", x.restore(1), 0);
        Due.is("no sample then", x.sample(0), Due.NONE);
        Due.isTrue("all is as in a new object", Due.soundOf(new PhaseTones()).equals(Due.soundOf(x)));
    }

    @Says(in = "Promise 26: restore", sentence = "Restores what was saved last in a slot, which keeps it.")
    static void restoreCanBeDoneAgainAndAgain() {
        PhaseTones x = Boundary.busy();
        x.save(0);
        String saved = Due.soundOf(x);
        for (int i = 0; i < 3; i++) {
            x.make(7);
            x.fill(0, i, 9);
            x.step(0, i);
            Due.is("restore(0)", x.restore(0), 55);
        }
        Due.isTrue("it is what was saved", saved.equals(Due.soundOf(x)));
    }

    @Says(in = "Promise 26: restore", sentence = "This is a change.")
    static void restoreIsRecorded() {
        PhaseTones x = Boundary.busy();
        PhaseTones y = Boundary.busy();
        x.restore(0);
        Due.is("the history stays full", x.count(9), 6);
        Due.is("undo() of it", x.undo(), 5);
        Due.isTrue("all is as it was before it", Due.soundOf(x).equals(Due.soundOf(y)));
        x.undo();
        y.undo();
        Due.isTrue("and as before the change ahead of it", Due.soundOf(x).equals(Due.soundOf(y)));
    }

    @Says(in = "Promise 26: restore", sentence = "Returns how many samples were made then")
    static void restoreReturnsTheSamplesOfTheSlot() {
        PhaseTones x = new PhaseTones();
        x.make(999);
        x.save(0);
        x.make(1);
        Due.is("restore(0) of fewer", x.restore(0), 999);
        x.undo();
        Due.is("undo() brings back", x.count(1), 1000);
        x.undo();
        x.undo();
        Due.is("restore(0) of more", x.restore(0), 999);
    }
}
