import java.util.ArrayList;
import java.util.List;
import java.util.function.Supplier;

/** What the tests of boundary cases share: objects to begin with, and what a refused call has to leave. */
final class Boundary {
    static final int LOW = Integer.MIN_VALUE;
    static final int HIGH = Integer.MAX_VALUE;

    /** No wheel, and no table, has these numbers. */
    static final int[] NO_WHEEL = {-1, 4, LOW, HIGH};
    static final int[] NO_PLACE = {-1, 16, LOW, HIGH};

    private static final int STATES_KEPT = 6;

    /** Each call of a test begins anew: a call, and what it is called in a message. */
    interface Call {
        int on(PhaseTones x);
    }

    private static final List<String> FRESH_TRACES = traces(PhaseTones::new);
    private static final List<String> BUSY_TRACES = traces(Boundary::busy);

    private Boundary() {
    }

    /**
     * An object with something of everything: the history and the row of the wheel 3 are full, two
     * wheels are in the middle of a sweep, both slots are saved, and the pad holds three orders.
     */
    static PhaseTones busy() {
        PhaseTones x = new PhaseTones();
        x.turn(1, true);
        x.turn(3, true);
        x.table(1, 1);
        x.table(3, 3);
        x.fill(3, 2, 13);
        x.step(1, 64000);
        x.sweep(0, 30000, 20);
        x.make(5);
        x.save(0);
        x.volume(1, 16);
        x.clip(230);
        x.make(40);
        x.save(1);
        x.sweep(0, 9, 400);
        x.sweep(0, 60000, 50);
        x.sweep(3, 3000, 30);
        x.make(7);
        for (int end = 1; end <= 3; end++) {
            x.sweep(3, 40000 * (end % 2), 10 * end);
        }
        x.sweep(2, 5, 60);
        x.phase(2, 50000);
        x.make(3);
        x.fill(0, 15, 0);
        x.turn(1, false);
        putAll(x, "1v3;0s77;.2");
        return x;
    }

    /** Puts a text on the pad, behind what it holds. */
    static void putAll(PhaseTones x, String text) {
        for (int from = 0; from < text.length(); from += 8) {
            x.put(Due.packed(text.substring(from, Math.min(text.length(), from + 8))));
        }
    }

    static PhaseTones withPad(String text) {
        PhaseTones x = new PhaseTones();
        putAll(x, text);
        return x;
    }

    /** A good text of 60 characters. */
    static PhaseTones withFullPad() {
        return withPad("0v1;0v2;0v3;0v4;0v5;0v6;0v7;0v8;0v9;1v1;1v2;1v3;1v4;1v5;2v16");
    }

    /** A call with this error, on a new object and on a busy one: it answers it, and changes nothing. */
    static void refused(String name, Call call, int error) {
        Due.is(name + " on a new object", call.on(new PhaseTones()), error);
        dueTraces(name + " on a new object", FRESH_TRACES, traces(() -> after(PhaseTones::new, call)));
        Due.is(name + " on a busy object", call.on(busy()), error);
        dueTraces(name + " on a busy object", BUSY_TRACES, traces(() -> after(Boundary::busy, call)));
    }

    /** The same for objects that are made in another way. */
    static void refusedOn(Supplier<PhaseTones> made, String name, Call call, int error) {
        Due.is(name, call.on(made.get()), error);
        changesNothing(made, name, call);
    }

    static void changesNothing(Supplier<PhaseTones> made, String name, Call call) {
        dueTraces(name, traces(made), traces(() -> after(made, call)));
    }

    /**
     * A change that is no error: it is recorded, undo brings all back, and the states before it are kept,
     * but for the oldest if the history was full.
     */
    static void recorded(String name, Call change) {
        PhaseTones x = new PhaseTones();
        Due.isTrue(name + " returns no error", change.on(x) >= 0);
        Due.is(name + " is recorded", x.count(9), 1);
        Due.is("undo() of " + name, x.undo(), 0);
        Due.isTrue("undo() of " + name + " brings all back", soundAfter(PhaseTones::new, 0).equals(Due.soundOf(x)));
        for (int undos = 1; undos <= STATES_KEPT; undos++) {
            PhaseTones busy = after(Boundary::busy, change);
            Due.is(name + " is recorded in a full history", busy.count(9), STATES_KEPT);
            for (int i = 1; i <= undos; i++) {
                Due.is("undo() " + i + " behind " + name, busy.undo(), STATES_KEPT - i);
            }
            boolean isBack = soundAfter(Boundary::busy, undos - 1).equals(Due.soundOf(busy));
            Due.isTrue("undo() " + undos + " behind " + name + " brings all back", isBack);
        }
    }

    /** A change that makes nothing different than it was: it is recorded even so. */
    static void recordedAlthoughTheSame(String name, Call change) {
        PhaseTones x = new PhaseTones();
        change.on(x);
        String before = Due.soundOf(x);
        int undoable = x.count(9);
        Due.isTrue(name + " again returns no error", change.on(x) >= 0);
        Due.isTrue(name + " again makes nothing different", before.equals(Due.soundOf(x)));
        Due.is(name + " again is recorded", x.count(9), undoable + 1);
        Due.is("undo() of " + name + " again", x.undo(), undoable);
        Due.isTrue("undo() of " + name + " again makes nothing different", before.equals(Due.soundOf(x)));
    }

    private static String soundAfter(Supplier<PhaseTones> made, int undos) {
        PhaseTones x = made.get();
        for (int i = 0; i < undos; i++) {
            x.undo();
        }
        return Due.soundOf(x);
    }

    private static PhaseTones after(Supplier<PhaseTones> made, Call call) {
        PhaseTones x = made.get();
        call.on(x);
        return x;
    }

    private static void dueTraces(String name, List<String> before, List<String> behind) {
        for (int i = 0; i < before.size(); i++) {
            Due.isTrue(name + " changes nothing (trace " + i + ")", before.get(i).equals(behind.get(i)));
        }
    }

    /**
     * All that can be found out of an object, the pad, the history and the slots, too. Much of it can be
     * seen only by calls that change it: so each trace is of an object of its own.
     */
    private static List<String> traces(Supplier<PhaseTones> made) {
        List<String> all = new ArrayList<>();
        for (int undos = 0; undos <= STATES_KEPT; undos++) {
            PhaseTones x = made.get();
            StringBuilder trace = new StringBuilder();
            trace.append(x.count(8)).append(' ').append(x.fault()).append(' ').append(x.count(9)).append(' ');
            for (int i = 0; i < undos; i++) {
                trace.append(x.undo()).append(' ');
            }
            all.add(trace.append(Due.soundOf(x)).toString());
        }
        for (int slot = 0; slot < 2; slot++) {
            PhaseTones x = made.get();
            all.add(x.restore(slot) + " " + Due.soundOf(x));
        }
        // What stands on a pad is seen by running it; one of these completes a text that ends too early.
        for (String rest : new String[] {"", ".1", ";.1", "1;.1", ":1;.1"}) {
            PhaseTones x = made.get();
            putAll(x, rest);
            all.add(x.fault() + " " + x.run() + " " + Due.soundOf(x));
        }
        return all;
    }
}
