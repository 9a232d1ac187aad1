import java.math.BigInteger;
import java.util.ArrayDeque;
import java.util.ArrayList;
import java.util.Deque;
import java.util.List;
import java.util.regex.Matcher;
import java.util.regex.Pattern;

/**
 * The document once more, in other words and as plain as can be: a sound is never changed in place where
 * it is kept, all mixtures are kept in a list, and texts are read by a pattern.
 */
final class Model {
    private static final int NO_SUCH = -1, BAD_VALUE = -2, BAD_TEXT = -3, TOO_MANY = -4, NOT_POSSIBLE = -5, NONE = -6;

    private static final String STEP = "(0|[1-9][0-9]{0,3}|[1-5][0-9]{4}|6[0-4][0-9]{3}|65[0-4][0-9]{2}|655[0-2][0-9]|6553[0-5])";
    private static final String SAMPLES = "([1-9][0-9]{0,2})";
    private static final String ORDER = "([0-3](s" + STEP + "|t[0-3]|v([0-9]|1[0-6])|o|>" + STEP + ":" + SAMPLES + ")|\\." + SAMPLES + ")";
    private static final Pattern TEXT = Pattern.compile(ORDER + "(;" + ORDER + ")*");

    private static final class Sweep {
        final int end;
        final int samples;

        Sweep(int end, int samples) {
            this.end = end;
            this.samples = samples;
        }
    }

    private static final class Wheel {
        int phase = 0, step = 1024, table = 0, volume = 8;
        boolean isOn = false;
        List<Sweep> row = new ArrayList<>();
        int from = 0, times = 0;

        Wheel copy() {
            Wheel w = new Wheel();
            w.phase = phase;
            w.step = step;
            w.table = table;
            w.volume = volume;
            w.isOn = isOn;
            w.row = new ArrayList<>(row);
            w.from = from;
            w.times = times;
            return w;
        }

        void next() {
            phase = (phase + step) & 0xFFFF;
            if (row.isEmpty()) {
                return;
            }
            if (times == 0) {
                from = step;
            }
            times++;
            Sweep s = row.get(0);
            BigInteger way = BigInteger.valueOf(s.end - from).multiply(BigInteger.valueOf(times));
            step = from + way.divide(BigInteger.valueOf(s.samples)).intValue();
            if (times == s.samples) {
                row.remove(0);
                times = 0;
            }
        }

        int image() {
            return Math.min(step, 65536 - step);
        }

        int length() {
            return 65536 / BigInteger.valueOf(65536).gcd(BigInteger.valueOf(step)).intValue();
        }
    }

    private static final class State {
        int clip = 400;
        int[][] tables = new int[4][16];
        Wheel[] wheels = {new Wheel(), new Wheel(), new Wheel(), new Wheel()};
        List<Integer> mixtures = new ArrayList<>();
        int clipped = 0;

        State() {
            for (int k = 0; k < 16; k++) {
                tables[0][k] = k;
                tables[1][k] = k < 8 ? 2 * k : 30 - 2 * k;
                tables[2][k] = k < 8 ? 15 : 0;
            }
            wheels[0].isOn = true;
        }

        State copy() {
            State s = new State();
            s.clip = clip;
            for (int i = 0; i < 4; i++) {
                s.tables[i] = tables[i].clone();
                s.wheels[i] = wheels[i].copy();
            }
            s.mixtures = new ArrayList<>(mixtures);
            s.clipped = clipped;
            return s;
        }

        int given(int wheel) {
            return tables[wheels[wheel].table][wheels[wheel].phase >> 12] * wheels[wheel].volume;
        }

        int together() {
            int sum = 0;
            for (int i = 0; i < 4; i++) {
                sum += wheels[i].isOn ? given(i) : 0;
            }
            return sum;
        }

        void make(int samples) {
            for (int n = 0; n < samples; n++) {
                int sum = together();
                clipped += sum > clip ? 1 : 0;
                mixtures.add(Math.min(sum, clip));
                for (Wheel w : wheels) {
                    if (w.isOn) {
                        w.next();
                    }
                }
            }
        }

        int on() {
            int many = 0;
            for (Wheel w : wheels) {
                many += w.isOn ? 1 : 0;
            }
            return many;
        }
    }

    private State state = new State();
    private final Deque<State> history = new ArrayDeque<>();
    private final State[] slots = new State[2];
    private String pad = "";

    private static boolean out(int number, int least, int greatest) {
        return number < least || number > greatest;
    }

    private void change() {
        history.addLast(state.copy());
        if (history.size() > 6) {
            history.removeFirst();
        }
    }

    int clip(int value) {
        if (out(value, 1, 960)) {
            return BAD_VALUE;
        }
        change();
        int before = state.clip;
        state.clip = value;
        return before;
    }

    int fill(int table, int place, int value) {
        if (out(table, 0, 3) || out(place, 0, 15)) {
            return NO_SUCH;
        }
        if (out(value, 0, 15)) {
            return BAD_VALUE;
        }
        change();
        int before = state.tables[table][place];
        state.tables[table][place] = value;
        return before;
    }

    int step(int wheel, int step) {
        if (out(wheel, 0, 3)) {
            return NO_SUCH;
        }
        if (out(step, 0, 65535)) {
            return BAD_VALUE;
        }
        change();
        return setStep(wheel, step);
    }

    private int setStep(int wheel, int step) {
        Wheel w = state.wheels[wheel];
        int before = w.step;
        w.step = step;
        w.row.clear();
        w.times = 0;
        return before;
    }

    int table(int wheel, int table) {
        if (out(wheel, 0, 3) || out(table, 0, 3)) {
            return NO_SUCH;
        }
        change();
        int before = state.wheels[wheel].table;
        state.wheels[wheel].table = table;
        return before;
    }

    int volume(int wheel, int volume) {
        if (out(wheel, 0, 3)) {
            return NO_SUCH;
        }
        if (out(volume, 0, 16)) {
            return BAD_VALUE;
        }
        change();
        int before = state.wheels[wheel].volume;
        state.wheels[wheel].volume = volume;
        return before;
    }

    int turn(int wheel, boolean isOn) {
        if (out(wheel, 0, 3)) {
            return NO_SUCH;
        }
        if (state.wheels[wheel].isOn == isOn) {
            return NOT_POSSIBLE;
        }
        change();
        state.wheels[wheel].isOn = isOn;
        return state.on();
    }

    int phase(int wheel, int phase) {
        if (out(wheel, 0, 3)) {
            return NO_SUCH;
        }
        if (out(phase, 0, 65535)) {
            return BAD_VALUE;
        }
        change();
        int before = state.wheels[wheel].phase;
        state.wheels[wheel].phase = phase;
        return before;
    }

    int sweep(int wheel, int end, int samples) {
        if (out(wheel, 0, 3)) {
            return NO_SUCH;
        }
        if (out(end, 0, 65535) || out(samples, 1, 999)) {
            return BAD_VALUE;
        }
        if (state.wheels[wheel].row.size() == 4) {
            return TOO_MANY;
        }
        change();
        state.wheels[wheel].row.add(new Sweep(end, samples));
        return state.wheels[wheel].row.size();
    }

    int make(int samples) {
        if (out(samples, 1, 999)) {
            return BAD_VALUE;
        }
        if (state.mixtures.size() + samples > 999999) {
            return TOO_MANY;
        }
        change();
        state.make(samples);
        return state.mixtures.get(state.mixtures.size() - 1);
    }

    int run() {
        if (fault() != NONE) {
            return BAD_TEXT;
        }
        change();
        int done = 0;
        for (String order : pad.split(";")) {
            done += isDone(order) ? 1 : 0;
        }
        pad = "";
        return done;
    }

    private boolean isDone(String order) {
        if (order.startsWith(".")) {
            int samples = Integer.parseInt(order.substring(1));
            if (state.mixtures.size() + samples > 999999) {
                return false;
            }
            state.make(samples);
            return true;
        }
        int wheel = order.charAt(0) - '0';
        Wheel w = state.wheels[wheel];
        String rest = order.substring(2);
        switch (order.charAt(1)) {
            case 's':
                setStep(wheel, Integer.parseInt(rest));
                return true;
            case 't':
                w.table = Integer.parseInt(rest);
                return true;
            case 'v':
                w.volume = Integer.parseInt(rest);
                return true;
            case 'o':
                w.isOn = !w.isOn;
                return true;
            default:
                if (w.row.size() == 4) {
                    return false;
                }
                String[] two = rest.split(":");
                w.row.add(new Sweep(Integer.parseInt(two[0]), Integer.parseInt(two[1])));
                return true;
        }
    }

    int wheel(int wheel, int what) {
        if (out(wheel, 0, 3)) {
            return NO_SUCH;
        }
        if (out(what, 0, 10)) {
            return BAD_VALUE;
        }
        Wheel w = state.wheels[wheel];
        int left = -w.times;
        int last = w.step;
        for (Sweep s : w.row) {
            left += s.samples;
            last = s.end;
        }
        int[] all = {
            w.phase, w.step, w.table, w.volume, w.isOn ? 1 : 0, w.row.size(), state.given(wheel), w.image(), w.length(), left, last,
        };
        return all[what];
    }

    int valueOf(int table, int place) {
        return out(table, 0, 3) || out(place, 0, 15) ? NO_SUCH : state.tables[table][place];
    }

    int sample(int ago) {
        if (out(ago, 0, 31)) {
            return BAD_VALUE;
        }
        int index = state.mixtures.size() - 1 - ago;
        return index < 0 ? NONE : state.mixtures.get(index);
    }

    int beat(int one, int other) {
        if (out(one, 0, 3) || out(other, 0, 3)) {
            return NO_SUCH;
        }
        return Math.abs(state.wheels[one].image() - state.wheels[other].image());
    }

    int count(int what) {
        switch (what) {
            case 0: return state.clip;
            case 1: return state.mixtures.size();
            case 2: return state.clipped;
            case 3: return mask();
            case 4: return Math.min(state.together(), state.clip);
            case 5: return sum();
            case 6: return rises();
            case 7: return lengthOfAll();
            case 8: return pad.length();
            case 9: return history.size();
            default: return BAD_VALUE;
        }
    }

    private int mask() {
        int mask = 0;
        for (int i = 3; i >= 0; i--) {
            mask = 2 * mask + (state.wheels[i].isOn ? 1 : 0);
        }
        return mask;
    }

    private int sum() {
        long sum = 0;
        for (int mixture : state.mixtures) {
            sum += mixture;
        }
        return (int) (sum % 1000003);
    }

    private int rises() {
        int rises = 0;
        for (int i = 1; i < state.mixtures.size(); i++) {
            rises += state.mixtures.get(i) > state.mixtures.get(i - 1) ? 1 : 0;
        }
        return rises;
    }

    private int lengthOfAll() {
        BigInteger all = BigInteger.ONE;
        for (Wheel w : state.wheels) {
            if (w.isOn) {
                BigInteger one = BigInteger.valueOf(w.length());
                all = all.multiply(one).divide(all.gcd(one));
            }
        }
        return all.intValueExact();
    }

    int ifMade(int samples, int what) {
        if (out(samples, 1, 2000) || out(what, 0, 3)) {
            return BAD_VALUE;
        }
        State s = state.copy();
        s.make(samples);
        List<Integer> next = s.mixtures.subList(state.mixtures.size(), s.mixtures.size());
        switch (what) {
            case 0: return next.stream().mapToInt(Integer::intValue).max().getAsInt();
            case 1: return next.stream().mapToInt(Integer::intValue).min().getAsInt();
            case 2: return s.clipped - state.clipped;
            default: return next.get(next.size() - 1);
        }
    }

    int untilClip() {
        State s = state.copy();
        int samples = 0;
        while (samples < 2000 && s.together() <= s.clip) {
            s.make(1);
            samples++;
        }
        return samples == 2000 ? NONE : samples + 1;
    }

    int bestStep(int samples, int what) {
        if (out(samples, 2, 65536) || out(what, 0, 1)) {
            return BAD_VALUE;
        }
        int best = 0;
        int bestLength = 0;
        for (int step = 32768; step >= 1; step /= 2) {
            int length = 65536 / step;
            if (best == 0 || Math.abs(length - samples) <= Math.abs(bestLength - samples)) {
                best = step;
                bestLength = length;
            }
        }
        return what == 0 ? best : bestLength;
    }

    int untilRound(int wheel) {
        if (out(wheel, 0, 3)) {
            return NO_SUCH;
        }
        Wheel w = state.wheels[wheel].copy();
        for (int samples = 1; samples <= 70000; samples++) {
            int before = w.phase;
            w.next();
            if (w.phase < before) {
                return samples;
            }
        }
        return NONE;
    }

    int put(long characters) {
        String text = "";
        for (int i = 0; i < 8; i++) {
            int code = (int) (characters >> (56 - 8 * i)) & 0xFF;
            if (code == 0 && text.isEmpty()) {
                continue;
            }
            if (out(code, 33, 126)) {
                return BAD_VALUE;
            }
            text += (char) code;
        }
        if (text.isEmpty()) {
            return BAD_VALUE;
        }
        if (pad.length() + text.length() > 60) {
            return TOO_MANY;
        }
        pad += text;
        return pad.length();
    }

    int wipe() {
        int length = pad.length();
        pad = "";
        return length;
    }

    /** A text can go on to be a good one if the pattern came to its end while it was matched. */
    int fault() {
        for (int end = 1; end <= pad.length(); end++) {
            Matcher matcher = TEXT.matcher(pad.substring(0, end));
            if (!matcher.matches() && !matcher.hitEnd()) {
                return end - 1;
            }
        }
        return TEXT.matcher(pad).matches() ? NONE : pad.length();
    }

    int undo() {
        if (history.isEmpty()) {
            return NOT_POSSIBLE;
        }
        state = history.removeLast();
        return history.size();
    }

    int save(int slot) {
        if (out(slot, 0, 1)) {
            return BAD_VALUE;
        }
        slots[slot] = state.copy();
        return state.mixtures.size();
    }

    int restore(int slot) {
        if (out(slot, 0, 1)) {
            return BAD_VALUE;
        }
        if (slots[slot] == null) {
            return NOT_POSSIBLE;
        }
        change();
        state = slots[slot].copy();
        return state.mixtures.size();
    }
}
