/** Promises 2 to 10: the changes, but for run(). */
final class ChangesTest {
    private static final int LOW = Integer.MIN_VALUE;
    private static final int HIGH = Integer.MAX_VALUE;

    public static void main(String[] args) {
        clip();
        fill();
        step();
        table();
        volume();
        turn();
        phase();
        sweepAnswers();
        sweepCourse();
        sweepRounding();
        sweepsFollow();
        makeAnswers();
        makeCourse();
        makeLimit();
        Due.end();
    }

    /** The calls of a row that return an error have to leave all as it was; it is asked behind them. */
    private static PhaseTones withSomeState() {
        PhaseTones x = new PhaseTones();
        x.turn(2, true);
        x.step(2, 5000);
        x.sweep(2, 9000, 30);
        x.clip(120);
        x.make(37);
        x.save(1);
        return x;
    }

    private static void dueAsBefore(String what, PhaseTones x) {
        PhaseTones fresh = withSomeState();
        Due.isTrue(what + " with an error changes nothing", Due.soundOf(fresh).equals(Due.soundOf(x)));
        Due.is(what + " with an error records nothing", x.count(9), fresh.count(9));
    }

    private static void clip() {
        PhaseTones x = withSomeState();
        for (int bad : new int[] {0, 961, -1, LOW, HIGH}) {
            Due.is("clip(" + bad + ")", x.clip(bad), Due.BAD_VALUE);
        }
        dueAsBefore("clip", x);
        x = new PhaseTones();
        Due.is("clip(1)", x.clip(1), 400);
        Due.is("clip(960)", x.clip(960), 1);
        Due.is("clip(960) again", x.clip(960), 960);
        Due.is("count(0)", x.count(0), 960);
        Due.is("clip is a change", x.count(9), 3);
    }

    private static void fill() {
        PhaseTones x = withSomeState();
        for (int bad : new int[] {-1, 4, LOW, HIGH}) {
            Due.is("fill(" + bad + ", 0, 0)", x.fill(bad, 0, 0), Due.NO_SUCH);
        }
        for (int bad : new int[] {-1, 16, LOW, HIGH}) {
            Due.is("fill(0, " + bad + ", 0)", x.fill(0, bad, 0), Due.NO_SUCH);
            Due.is("fill(0, 0, " + bad + ")", x.fill(0, 0, bad), Due.BAD_VALUE);
            Due.is("fill(0, " + bad + ", 99)", x.fill(0, bad, 99), Due.NO_SUCH);
            Due.is("fill(" + bad + ", 3, 99)", x.fill(bad == 16 ? 4 : bad, 3, 99), Due.NO_SUCH);
        }
        dueAsBefore("fill", x);
        x = new PhaseTones();
        for (int table = 0; table < 4; table++) {
            for (int place = 0; place < 16; place++) {
                int before = x.valueOf(table, place);
                int value = (5 * table + 7 * place + 3) % 16;
                Due.is("fill(" + table + ", " + place + ", " + value + ")", x.fill(table, place, value), before);
            }
        }
        for (int table = 0; table < 4; table++) {
            for (int place = 0; place < 16; place++) {
                Due.is("valueOf", x.valueOf(table, place), (5 * table + 7 * place + 3) % 16);
            }
        }
        Due.is("a wheel gives the new value", x.count(4), 3 * 8);
        Due.is("fill(3, 15, 0)", x.fill(3, 15, 0), (15 + 105 + 3) % 16);
        Due.is("fill(3, 15, 15)", x.fill(3, 15, 15), 0);
        Due.is("fill is a change", x.count(9), 6);
    }

    private static void step() {
        PhaseTones x = withSomeState();
        for (int bad : new int[] {-1, 4, LOW, HIGH}) {
            Due.is("step(" + bad + ", 0)", x.step(bad, 0), Due.NO_SUCH);
            Due.is("step(" + bad + ", -1)", x.step(bad, -1), Due.NO_SUCH);
        }
        for (int bad : new int[] {-1, 65536, LOW, HIGH}) {
            Due.is("step(2, " + bad + ")", x.step(2, bad), Due.BAD_VALUE);
        }
        dueAsBefore("step", x);
        x = new PhaseTones();
        Due.is("step(3, 65535)", x.step(3, 65535), 1024);
        Due.is("step(3, 0)", x.step(3, 0), 65535);
        Due.is("wheel(3, 1)", x.wheel(3, 1), 0);
        Due.is("wheel(2, 1)", x.wheel(2, 1), 1024);
        x.sweep(0, 2024, 10);
        x.sweep(0, 0, 10);
        x.make(3);
        Due.is("step in the middle of a sweep", x.step(0, 1324), 1324);
        Due.is("step drops sweeps", x.wheel(0, 5), 0);
        Due.is("nothing is left to sweep", x.wheel(0, 9), 0);
        x.make(20);
        Due.is("the step stays", x.wheel(0, 1), 1324);
        Due.is("step is a change", x.count(9), 6);
        x.sweep(0, 1334, 5);
        x.make(2);
        Due.is("a sweep behind a dropped one", x.wheel(0, 1), 1328);
    }

    private static void table() {
        PhaseTones x = withSomeState();
        for (int bad : new int[] {-1, 4, LOW, HIGH}) {
            Due.is("table(" + bad + ", 0)", x.table(bad, 0), Due.NO_SUCH);
            Due.is("table(0, " + bad + ")", x.table(0, bad), Due.NO_SUCH);
        }
        dueAsBefore("table", x);
        x = new PhaseTones();
        Due.is("table(0, 2)", x.table(0, 2), 0);
        Due.is("table(0, 3)", x.table(0, 3), 2);
        Due.is("table(0, 3) again", x.table(0, 3), 3);
        Due.is("table(0, 2) again", x.table(0, 2), 3);
        Due.is("wheel(0, 2)", x.wheel(0, 2), 2);
        Due.is("wheel(1, 2)", x.wheel(1, 2), 0);
        Due.is("count(4)", x.count(4), 120);
        Due.is("table is a change", x.count(9), 4);
    }

    private static void volume() {
        PhaseTones x = withSomeState();
        for (int bad : new int[] {-1, 4, LOW, HIGH}) {
            Due.is("volume(" + bad + ", 0)", x.volume(bad, 0), Due.NO_SUCH);
            Due.is("volume(" + bad + ", 17)", x.volume(bad, 17), Due.NO_SUCH);
        }
        for (int bad : new int[] {-1, 17, LOW, HIGH}) {
            Due.is("volume(2, " + bad + ")", x.volume(2, bad), Due.BAD_VALUE);
        }
        dueAsBefore("volume", x);
        x = new PhaseTones();
        x.table(0, 2);
        Due.is("volume(0, 16)", x.volume(0, 16), 8);
        Due.is("count(4) with 16", x.count(4), 240);
        Due.is("volume(0, 0)", x.volume(0, 0), 16);
        Due.is("count(4) with 0", x.count(4), 0);
        Due.is("wheel(0, 3)", x.wheel(0, 3), 0);
        Due.is("wheel(1, 3)", x.wheel(1, 3), 8);
        Due.is("volume is a change", x.count(9), 3);
    }

    private static void turn() {
        PhaseTones x = withSomeState();
        for (int bad : new int[] {-1, 4, LOW, HIGH}) {
            Due.is("turn(" + bad + ", true)", x.turn(bad, true), Due.NO_SUCH);
            Due.is("turn(" + bad + ", false)", x.turn(bad, false), Due.NO_SUCH);
        }
        Due.is("turn(2, true)", x.turn(2, true), Due.NOT_POSSIBLE);
        Due.is("turn(1, false)", x.turn(1, false), Due.NOT_POSSIBLE);
        dueAsBefore("turn", x);
        x = new PhaseTones();
        x.make(9);
        Due.is("turn(3, true)", x.turn(3, true), 2);
        Due.is("turn(1, true)", x.turn(1, true), 3);
        Due.is("count(3)", x.count(3), 11);
        Due.is("turn(0, false)", x.turn(0, false), 2);
        Due.is("its phase stays", x.wheel(0, 0), 9 * 1024);
        x.make(5);
        Due.is("it does not go on when off", x.wheel(0, 0), 9 * 1024);
        Due.is("turn(0, true)", x.turn(0, true), 3);
        x.make(1);
        Due.is("it goes on when on", x.wheel(0, 0), 10 * 1024);
        Due.is("turn is a change", x.count(9), 6);
    }

    private static void phase() {
        PhaseTones x = withSomeState();
        for (int bad : new int[] {-1, 4, LOW, HIGH}) {
            Due.is("phase(" + bad + ", 0)", x.phase(bad, 0), Due.NO_SUCH);
            Due.is("phase(" + bad + ", 65536)", x.phase(bad, 65536), Due.NO_SUCH);
        }
        for (int bad : new int[] {-1, 65536, LOW, HIGH}) {
            Due.is("phase(2, " + bad + ")", x.phase(2, bad), Due.BAD_VALUE);
        }
        dueAsBefore("phase", x);
        x = new PhaseTones();
        x.sweep(0, 2048, 4);
        Due.is("phase(0, 4095)", x.phase(0, 4095), 0);
        Due.is("value below 4096", x.count(4), 0);
        Due.is("phase(0, 4096)", x.phase(0, 4096), 4095);
        Due.is("value from 4096", x.count(4), 8);
        Due.is("phase(0, 65535)", x.phase(0, 65535), 4096);
        Due.is("value at the end", x.count(4), 120);
        Due.is("sweeps stay", x.wheel(0, 5), 1);
        x.make(1);
        Due.is("the phase is left over by 65536", x.wheel(0, 0), 1023);
        Due.is("phase is a change", x.count(9), 5);
    }

    private static void sweepAnswers() {
        PhaseTones x = withSomeState();
        for (int bad : new int[] {-1, 4, LOW, HIGH}) {
            Due.is("sweep(" + bad + ", 0, 1)", x.sweep(bad, 0, 1), Due.NO_SUCH);
            Due.is("sweep(" + bad + ", -1, 0)", x.sweep(bad, -1, 0), Due.NO_SUCH);
        }
        for (int bad : new int[] {-1, 65536, LOW, HIGH}) {
            Due.is("sweep(2, " + bad + ", 1)", x.sweep(2, bad, 1), Due.BAD_VALUE);
        }
        for (int bad : new int[] {-1, 0, 1000, LOW, HIGH}) {
            Due.is("sweep(2, 0, " + bad + ")", x.sweep(2, 0, bad), Due.BAD_VALUE);
        }
        dueAsBefore("sweep", x);
        x = new PhaseTones();
        Due.is("sweep(1, 0, 999)", x.sweep(1, 0, 999), 1);
        Due.is("sweep(1, 65535, 1)", x.sweep(1, 65535, 1), 2);
        Due.is("sweep(1, 7, 10)", x.sweep(1, 7, 10), 3);
        Due.is("sweep(1, 9, 20)", x.sweep(1, 9, 20), 4);
        String before = Due.soundOf(x);
        Due.is("a fifth sweep", x.sweep(1, 9, 20), Due.TOO_MANY);
        Due.is("a fifth sweep that is bad", x.sweep(1, 9, 0), Due.BAD_VALUE);
        Due.isTrue("a fifth sweep changes nothing", before.equals(Due.soundOf(x)));
        Due.is("sweep is a change", x.count(9), 4);
        Due.is("sweeps of the wheel", x.wheel(1, 5), 4);
        Due.is("samples of the sweeps", x.wheel(1, 9), 1030);
        Due.is("step behind them", x.wheel(1, 10), 9);
        Due.is("step until then", x.wheel(1, 1), 1024);
        Due.is("no sweep of another wheel", x.wheel(0, 5), 0);
    }

    private static void sweepCourse() {
        PhaseTones x = new PhaseTones();
        x.sweep(0, 2024, 4);
        int[] steps = {1274, 1524, 1774, 2024, 2024};
        int phase = 0;
        int step = 1024;
        for (int k = 0; k < steps.length; k++) {
            x.make(1);
            phase += step;
            step = steps[k];
            Due.is("phase behind " + (k + 1) + ": the old step counts", x.wheel(0, 0), phase);
            Due.is("step behind " + (k + 1), x.wheel(0, 1), step);
            Due.is("samples left behind " + (k + 1), x.wheel(0, 9), Math.max(0, 3 - k));
            Due.is("sweeps behind " + (k + 1), x.wheel(0, 5), k < 3 ? 1 : 0);
            Due.is("last step behind " + (k + 1), x.wheel(0, 10), 2024);
        }
        x.turn(0, false);
        x.sweep(0, 0, 2);
        x.make(10);
        Due.is("a wheel that is off does not sweep", x.wheel(0, 9), 2);
        Due.is("its step stays", x.wheel(0, 1), 2024);
    }

    private static void sweepRounding() {
        PhaseTones down = new PhaseTones();
        down.sweep(0, 1, 7);
        int[] steps = {878, 732, 586, 440, 294, 148, 1};
        for (int k = 0; k < steps.length; k++) {
            down.make(1);
            Due.is("step down " + (k + 1) + ", rounded toward 0", down.wheel(0, 1), steps[k]);
        }
        PhaseTones up = new PhaseTones();
        up.step(0, 0);
        up.sweep(0, 10, 3);
        int[] stepsUp = {3, 6, 10};
        for (int k = 0; k < stepsUp.length; k++) {
            up.make(1);
            Due.is("step up " + (k + 1), up.wheel(0, 1), stepsUp[k]);
        }
        PhaseTones great = new PhaseTones();
        great.step(0, 65535);
        great.sweep(0, 0, 999);
        great.make(998);
        Due.is("a great sweep, nearly done", great.wheel(0, 1), 66);
        great.make(1);
        Due.is("a great sweep, done", great.wheel(0, 1), 0);
    }

    private static void sweepsFollow() {
        PhaseTones x = new PhaseTones();
        x.sweep(0, 1034, 2);
        x.sweep(0, 1000, 3);
        x.sweep(0, 1001, 1);
        x.sweep(0, 1001, 2);
        int[] steps = {1029, 1034, 1023, 1012, 1000, 1001, 1001, 1001, 1001};
        int[] sweeps = {4, 3, 3, 3, 2, 1, 1, 0, 0};
        for (int k = 0; k < steps.length; k++) {
            x.make(1);
            Due.is("step behind " + (k + 1) + " of a row", x.wheel(0, 1), steps[k]);
            Due.is("sweeps behind " + (k + 1) + " of a row", x.wheel(0, 5), sweeps[k]);
            Due.is("samples left behind " + (k + 1) + " of a row", x.wheel(0, 9), Math.max(0, 7 - k));
        }
        Due.is("room for a sweep again", x.sweep(0, 5, 5), 1);
    }

    private static void makeAnswers() {
        PhaseTones x = withSomeState();
        for (int bad : new int[] {0, 1000, -1, LOW, HIGH}) {
            Due.is("make(" + bad + ")", x.make(bad), Due.BAD_VALUE);
        }
        dueAsBefore("make", x);
        x = new PhaseTones();
        Due.is("make(999)", x.make(999), (998 * 1024 % 65536 / 4096) * 8);
        Due.is("count(1)", x.count(1), 999);
        Due.is("make(1)", x.make(1), (999 * 1024 % 65536 / 4096) * 8);
        Due.is("make is a change", x.count(9), 2);
    }

    private static void makeCourse() {
        PhaseTones x = new PhaseTones();
        x.turn(1, true);
        x.table(1, 1);
        x.volume(1, 3);
        x.step(1, 5000);
        x.clip(60);
        int sum = 0;
        int clipped = 0;
        int rises = 0;
        int before = 1000;
        for (int n = 0; n < 100; n++) {
            int place = 5000 * n % 65536 / 4096;
            int whole = 1024 * n % 65536 / 4096 * 8 + (place < 8 ? 2 * place : 30 - 2 * place) * 3;
            int mixture = Math.min(60, whole);
            clipped += whole > 60 ? 1 : 0;
            rises += mixture > before ? 1 : 0;
            sum += mixture;
            before = mixture;
            Due.is("the mixture to come " + n, x.count(4), mixture);
            Due.is("make(1) of " + n, x.make(1), mixture);
            Due.is("clipped until " + n, x.count(2), clipped);
            Due.is("sum until " + n, x.count(5), sum);
            Due.is("rises until " + n, x.count(6), rises);
        }
    }

    /**
     * Within 512 calls nobody comes to 999999 samples; what is asked here goes beyond the calls that the
     * document promises anything of, to see the one limit of make() that cannot be seen otherwise.
     */
    private static void makeLimit() {
        PhaseTones x = new PhaseTones();
        for (int i = 0; i < 1000; i++) {
            x.make(999);
        }
        x.make(998);
        Due.is("nearly all samples", x.count(1), 999998);
        Due.is("two more are too many", x.make(2), Due.TOO_MANY);
        Due.is("a bad value comes first", x.make(0), Due.BAD_VALUE);
        Due.putText(x, ".2;1o;.1;.1");
        Due.is("run() passes over too many", x.run(), 2);
        Due.is("all samples", x.count(1), 999999);
        Due.is("one more is too many", x.make(1), Due.TOO_MANY);
        Due.is("it is still possible to ask what would be", x.ifMade(2000, 2), 0);
    }
}
