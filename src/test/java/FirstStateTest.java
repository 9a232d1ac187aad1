/** Promise 1, and the constants. */
final class FirstStateTest {
    public static void main(String[] args) {
        constants();
        numbers();
        tables();
        wheels();
        twoObjects();
        Due.end();
    }

    private static void constants() {
        Due.is("NO_SUCH", PhaseTones.NO_SUCH, -1);
        Due.is("BAD_VALUE", PhaseTones.BAD_VALUE, -2);
        Due.is("BAD_TEXT", PhaseTones.BAD_TEXT, -3);
        Due.is("TOO_MANY", PhaseTones.TOO_MANY, -4);
        Due.is("NOT_POSSIBLE", PhaseTones.NOT_POSSIBLE, -5);
        Due.is("NONE", PhaseTones.NONE, -6);
    }

    private static void numbers() {
        PhaseTones x = new PhaseTones();
        int[] want = {400, 0, 0, 1, 0, 0, 0, 64, 0, 0};
        for (int what = 0; what < want.length; what++) {
            Due.is("first count(" + what + ")", x.count(what), want[what]);
        }
        for (int ago = 0; ago < 32; ago++) {
            Due.is("first sample(" + ago + ")", x.sample(ago), Due.NONE);
        }
        Due.is("first fault()", x.fault(), 0);
        Due.is("first wipe()", x.wipe(), 0);
        Due.is("first undo()", x.undo(), Due.NOT_POSSIBLE);
        Due.is("first restore(0)", x.restore(0), Due.NOT_POSSIBLE);
        Due.is("first restore(1)", x.restore(1), Due.NOT_POSSIBLE);
    }

    private static void tables() {
        PhaseTones x = new PhaseTones();
        int[] rising = {0, 1, 2, 3, 4, 5, 6, 7, 8, 9, 10, 11, 12, 13, 14, 15};
        int[] upAndDown = {0, 2, 4, 6, 8, 10, 12, 14, 14, 12, 10, 8, 6, 4, 2, 0};
        int[] square = {15, 15, 15, 15, 15, 15, 15, 15, 0, 0, 0, 0, 0, 0, 0, 0};
        for (int place = 0; place < 16; place++) {
            Due.is("first valueOf(0, " + place + ")", x.valueOf(0, place), rising[place]);
            Due.is("first valueOf(1, " + place + ")", x.valueOf(1, place), upAndDown[place]);
            Due.is("first valueOf(2, " + place + ")", x.valueOf(2, place), square[place]);
            Due.is("first valueOf(3, " + place + ")", x.valueOf(3, place), 0);
        }
    }

    private static void wheels() {
        PhaseTones x = new PhaseTones();
        for (int wheel = 0; wheel < 4; wheel++) {
            int[] want = {0, 1024, 0, 8, wheel == 0 ? 1 : 0, 0, 0, 1024, 64, 0, 1024};
            for (int what = 0; what < want.length; what++) {
                Due.is("first wheel(" + wheel + ", " + what + ")", x.wheel(wheel, what), want[what]);
            }
        }
    }

    private static void twoObjects() {
        PhaseTones one = new PhaseTones();
        PhaseTones other = new PhaseTones();
        String before = Due.soundOf(other);
        one.clip(1);
        one.fill(0, 0, 9);
        one.step(0, 3);
        one.make(50);
        one.save(0);
        one.put(Due.packed("0o"));
        Due.isTrue("one object leaves the other as it is", before.equals(Due.soundOf(other)));
        Due.is("pad of the other", other.count(8), 0);
        Due.is("slot of the other", other.restore(0), Due.NOT_POSSIBLE);
        Due.is("undo of the other", other.undo(), Due.NOT_POSSIBLE);
    }
}
