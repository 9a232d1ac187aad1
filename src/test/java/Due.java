/** What the tests share: it counts and prints the answers that are not as due. */
final class Due {
    static final int NO_SUCH = -1, BAD_VALUE = -2, BAD_TEXT = -3, TOO_MANY = -4, NOT_POSSIBLE = -5, NONE = -6;

    private static int asked = 0;
    private static int wrong = 0;

    private Due() {
    }

    static void is(String call, long got, long want) {
        asked++;
        if (got != want) {
            wrong++;
            System.out.println(call + " answered " + got + ", due is " + want);
        }
    }

    static void isTrue(String what, boolean holds) {
        is(what, holds ? 1 : 0, 1);
    }

    /** How many answers were asked for so far. */
    static int askedSoFar() {
        return asked;
    }

    /** How many answers were wrong so far. */
    static int wrongSoFar() {
        return wrong;
    }

    /** Ends the test, with the exit code 1 if an answer was wrong, or none was asked for. */
    static void end() {
        System.out.println(asked + " answers, " + wrong + " of them not as due");
        if (wrong != 0 || asked == 0) {
            System.exit(1);
        }
    }

    /** The number that stands for at most 8 characters, as the call put wants it. */
    static long packed(String characters) {
        long number = 0;
        for (int i = 0; i < characters.length(); i++) {
            number = number << 8 | characters.charAt(i);
        }
        return number;
    }

    /** Empties the pad, then puts a text on it. */
    static void putText(PhaseTones x, String text) {
        x.wipe();
        for (int from = 0; from < text.length(); from += 8) {
            int to = Math.min(text.length(), from + 8);
            is("put of \"" + text.substring(from, to) + "\"", x.put(packed(text.substring(from, to))), to);
        }
    }

    /**
     * Everything that undo has to bring back, as a text: two objects of which this is the same differ in
     * nothing that can be asked for, but for the pad, the history and the slots.
     */
    static String soundOf(PhaseTones x) {
        StringBuilder all = new StringBuilder();
        for (int what = 0; what <= 7; what++) {
            all.append(x.count(what)).append(' ');
        }
        for (int table = 0; table < 4; table++) {
            for (int place = 0; place < 16; place++) {
                all.append(x.valueOf(table, place)).append(' ');
            }
        }
        for (int wheel = 0; wheel < 4; wheel++) {
            for (int what = 0; what <= 10; what++) {
                all.append(x.wheel(wheel, what)).append(' ');
            }
            all.append(x.untilRound(wheel)).append(' ');
        }
        for (int ago = 0; ago < 32; ago++) {
            all.append(x.sample(ago)).append(' ');
        }
        for (int samples : new int[] {1, 7, 300}) {
            for (int what = 0; what < 4; what++) {
                all.append(x.ifMade(samples, what)).append(' ');
            }
        }
        return all.append(x.ifMade(2000, 3)).append(' ').append(x.untilClip()).toString();
    }
}
