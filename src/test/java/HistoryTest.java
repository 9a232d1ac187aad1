import java.util.ArrayList;
import java.util.List;

/** Promises 24 to 26: undo, save, restore. */
final class HistoryTest {
    public static void main(String[] args) {
        undoOfEveryChange();
        undoDepth();
        undoLeavesPadAndSlots();
        saveAnswers();
        restoreAnswers();
        restoreEverything();
        slotsStay();
        Due.end();
    }

    private static PhaseTones busy() {
        PhaseTones x = new PhaseTones();
        Due.putText(x, "0>3000:50;1o;1t1;1s777;2>9:900;2>8:900;2>7:900;2>6:900;.45");
        x.run();
        return x;
    }

    private interface Change {
        int of(PhaseTones x);
    }

    private static void undoOfEveryChange() {
        List<Change> changes = new ArrayList<>();
        changes.add(x -> x.clip(77));
        changes.add(x -> x.fill(3, 3, 3));
        changes.add(x -> x.step(0, 5));
        changes.add(x -> x.table(0, 3));
        changes.add(x -> x.volume(0, 1));
        changes.add(x -> x.turn(3, true));
        changes.add(x -> x.phase(0, 65535));
        changes.add(x -> x.sweep(1, 5, 7));
        changes.add(x -> x.make(999));
        changes.add(x -> x.restore(0));
        changes.add(x -> x.put(Due.packed("3v1;.9")) < 0 ? -1 : x.run());
        for (int i = 0; i < changes.size(); i++) {
            PhaseTones x = busy();
            saveAnother(x);
            String before = Due.soundOf(x);
            int undoable = x.count(9);
            Due.isTrue("change " + i + " is done", changes.get(i).of(x) >= 0);
            Due.is("change " + i + " is recorded", x.count(9), undoable + 1);
            Due.isTrue("change " + i + " changes something", !before.equals(Due.soundOf(x)));
            Due.is("undo of change " + i, x.undo(), undoable);
            Due.isTrue("undo of change " + i + " brings all back", before.equals(Due.soundOf(x)));
        }
    }

    private static void saveAnother(PhaseTones x) {
        x.clip(3);
        x.make(5);
        x.save(0);
        x.undo();
        x.undo();
    }

    private static void undoDepth() {
        PhaseTones x = new PhaseTones();
        Due.is("undo() of nothing", x.undo(), Due.NOT_POSSIBLE);
        for (int i = 1; i <= 10; i++) {
            x.clip(i);
        }
        for (int i = 5; i >= 0; i--) {
            Due.is("undo() to " + i, x.undo(), i);
            Due.is("CLIP then", x.count(0), i + 4);
        }
        Due.is("undo() of what was dropped", x.undo(), Due.NOT_POSSIBLE);
        Due.is("CLIP at last", x.count(0), 4);
        x.clip(4);
        Due.is("a change that makes nothing different", x.count(9), 1);
        x.make(1);
        Due.is("undo() of the later one", x.undo(), 1);
        x.volume(0, 0);
        Due.is("undo() of the one made in its place", x.undo(), 1);
        Due.is("volume then", x.wheel(0, 3), 8);
        Due.is("undo() of the earlier one", x.undo(), 0);
    }

    private static void undoLeavesPadAndSlots() {
        PhaseTones x = new PhaseTones();
        x.make(4);
        x.put(Due.packed("0o;"));
        x.save(1);
        x.make(5);
        Due.is("undo()", x.undo(), 1);
        Due.is("undo() again", x.undo(), 0);
        Due.is("the pad stays", x.count(8), 3);
        Due.is("the slot stays", x.restore(1), 4);
        Due.is("samples", x.count(1), 4);
    }

    private static void saveAnswers() {
        PhaseTones x = new PhaseTones();
        for (int bad : new int[] {-1, 2, Integer.MIN_VALUE, Integer.MAX_VALUE}) {
            Due.is("save(" + bad + ")", x.save(bad), Due.BAD_VALUE);
            Due.is("restore(" + bad + ")", x.restore(bad), Due.BAD_VALUE);
        }
        x.make(30);
        Due.is("save(0)", x.save(0), 30);
        x.make(3);
        Due.is("save(1)", x.save(1), 33);
        Due.is("save is no change", x.count(9), 2);
        Due.is("restore(0)", x.restore(0), 30);
        Due.is("restore(1)", x.restore(1), 33);
        x.make(10);
        Due.is("save(0) overwrites", x.save(0), 43);
        Due.is("restore(1) again", x.restore(1), 33);
        Due.is("restore(0) again", x.restore(0), 43);
    }

    private static void restoreAnswers() {
        PhaseTones x = new PhaseTones();
        x.save(0);
        Due.is("restore(1) of nothing", x.restore(1), Due.NOT_POSSIBLE);
        Due.is("which is no change", x.count(9), 0);
        x.make(7);
        Due.is("restore(0)", x.restore(0), 0);
        Due.is("which is a change", x.count(9), 2);
        Due.is("no sample then", x.sample(0), Due.NONE);
        Due.is("undo()", x.undo(), 1);
        Due.is("samples then", x.count(1), 7);
    }

    private static void restoreEverything() {
        PhaseTones x = busy();
        String before = Due.soundOf(x);
        x.save(1);
        Due.putText(x, "0s1;1o;2o;3t1;3v3;2s9;.999");
        x.run();
        x.clip(5);
        x.fill(1, 1, 1);
        x.phase(3, 3);
        x.put(Due.packed("abc"));
        Due.is("restore(1)", x.restore(1), 45);
        Due.isTrue("all is as it was", before.equals(Due.soundOf(x)));
        Due.is("the pad stays", x.count(8), 3);
        Due.is("the history stays", x.count(9), 6);
        x.make(100);
        x.clip(9);
        Due.is("the slot is kept", x.restore(1), 45);
        Due.isTrue("all is as it was, again", before.equals(Due.soundOf(x)));
    }

    private static void slotsStay() {
        PhaseTones x = new PhaseTones();
        x.save(0);
        x.make(9);
        x.undo();
        x.save(1);
        x.undo();
        x.make(2);
        Due.is("restore(0)", x.restore(0), 0);
        Due.is("undo()", x.undo(), 1);
        Due.is("samples then", x.count(1), 2);
        Due.is("restore(0) again", x.restore(0), 0);
    }
}
