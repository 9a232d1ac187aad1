/**
 * Phase wheel tone maker. What it promises is told in ../shared/DOC.md, promise by promise.
 *
 * <p>The whole sound (all that undo and the slots bring back) is one object of the class Sound. Every
 * Sound that is ever needed is made in the constructor, and copied over and over; no call makes an
 * object.
 */
public final class PhaseTones {
    public static final int NO_SUCH = -1, BAD_VALUE = -2, BAD_TEXT = -3, TOO_MANY = -4, NOT_POSSIBLE = -5, NONE = -6;

    private static final int GREATEST_CLIP = 960;
    private static final int FIRST_CLIP = 400;

    private static final int TABLES = 4;
    private static final int PLACES = 16;
    private static final int GREATEST_VALUE = 15;

    private static final int WHEELS = 4;
    private static final int ROUND = 65536;
    private static final int HALF_ROUND = 32768;
    private static final int PHASES_OF_A_PLACE = 4096;
    private static final int FIRST_STEP = 1024;
    private static final int FIRST_VOLUME = 8;
    private static final int GREATEST_VOLUME = 16;

    private static final int SWEEPS = 4;

    /** Of one sweep, and of one call of make. */
    private static final int MOST_SAMPLES = 999;
    private static final int MOST_MADE = 999999;
    private static final int SUM_ROUND = 1000003;
    private static final int LATEST = 32;

    private static final int FARTHEST_SIGHT = 2000;
    private static final int FARTHEST_ROUND = 70000;

    private static final int LONGEST_PAD = 60;
    private static final int CHARACTERS_AT_ONCE = 8;
    private static final int LEAST_CODE = 33;
    private static final int GREATEST_CODE = 126;

    private static final int STATES_KEPT = 6;
    private static final int SLOTS = 2;

    private final Sound now = new Sound();
    /** What the questions of the kind "what if" change in place of the sound of now. */
    private final Sound trial = new Sound();
    private final History history = new History();
    private final Slots slots = new Slots();
    private final Pad pad = new Pad();

    public PhaseTones() {
    }

    // ---- changes

    public int clip(int value) {
        if (isOutside(value, 1, GREATEST_CLIP)) {
            return BAD_VALUE;
        }
        history.keep(now);
        int previous = now.limit;
        now.limit = value;
        return previous;
    }

    public int fill(int table, int place, int value) {
        if (isNoTable(table) || isNoPlace(place)) {
            return NO_SUCH;
        }
        if (isOutside(value, 0, GREATEST_VALUE)) {
            return BAD_VALUE;
        }
        history.keep(now);
        int index = table * PLACES + place;
        int previous = now.values[index];
        now.values[index] = value;
        return previous;
    }

    public int step(int wheel, int step) {
        if (isNoWheel(wheel)) {
            return NO_SUCH;
        }
        if (isOutside(step, 0, ROUND - 1)) {
            return BAD_VALUE;
        }
        history.keep(now);
        int previous = now.wheels[wheel].step;
        now.wheels[wheel].changeStep(step);
        return previous;
    }

    public int table(int wheel, int table) {
        if (isNoWheel(wheel) || isNoTable(table)) {
            return NO_SUCH;
        }
        history.keep(now);
        int previous = now.wheels[wheel].table;
        now.wheels[wheel].table = table;
        return previous;
    }

    public int volume(int wheel, int volume) {
        if (isNoWheel(wheel)) {
            return NO_SUCH;
        }
        if (isOutside(volume, 0, GREATEST_VOLUME)) {
            return BAD_VALUE;
        }
        history.keep(now);
        int previous = now.wheels[wheel].volume;
        now.wheels[wheel].volume = volume;
        return previous;
    }

    public int turn(int wheel, boolean isOn) {
        if (isNoWheel(wheel)) {
            return NO_SUCH;
        }
        if (now.wheels[wheel].isOn == isOn) {
            return NOT_POSSIBLE;
        }
        history.keep(now);
        now.wheels[wheel].isOn = isOn;
        return Integer.bitCount(now.maskOfOn());
    }

    public int phase(int wheel, int phase) {
        if (isNoWheel(wheel)) {
            return NO_SUCH;
        }
        if (isOutside(phase, 0, ROUND - 1)) {
            return BAD_VALUE;
        }
        history.keep(now);
        int previous = now.wheels[wheel].phase;
        now.wheels[wheel].phase = phase;
        return previous;
    }

    public int sweep(int wheel, int end, int samples) {
        if (isNoWheel(wheel)) {
            return NO_SUCH;
        }
        if (isOutside(end, 0, ROUND - 1) || isOutside(samples, 1, MOST_SAMPLES)) {
            return BAD_VALUE;
        }
        if (now.wheels[wheel].sweeps >= SWEEPS) {
            return TOO_MANY;
        }
        history.keep(now);
        now.wheels[wheel].addSweep(end, samples);
        return now.wheels[wheel].sweeps;
    }

    public int make(int samples) {
        if (isOutside(samples, 1, MOST_SAMPLES)) {
            return BAD_VALUE;
        }
        if (now.hasNoRoomFor(samples)) {
            return TOO_MANY;
        }
        history.keep(now);
        now.makeSome(samples);
        return now.mixtureAgo(0);
    }

    public int run() {
        if (pad.findFault() != NONE) {
            return BAD_TEXT;
        }
        history.keep(now);
        int done = 0;
        pad.at = 0;
        for (int i = 0; i < LONGEST_PAD && pad.readOrder(); i++) {
            if (doOrder()) {
                done++;
            }
            pad.pass(';');
        }
        pad.length = 0;
        return done;
    }

    // ---- what there is; nothing changes

    public int wheel(int wheel, int what) {
        if (isNoWheel(wheel)) {
            return NO_SUCH;
        }
        Wheel asked = now.wheels[wheel];
        switch (what) {
            case 0: return asked.phase;
            case 1: return asked.step;
            case 2: return asked.table;
            case 3: return asked.volume;
            case 4: return asked.isOn ? 1 : 0;
            case 5: return asked.sweeps;
            case 6: return now.valueGivenBy(asked);
            case 7: return asked.image();
            case 8: return asked.samplesOfARound();
            case 9: return asked.samplesOfSweeps();
            case 10: return asked.lastStep();
            default: return BAD_VALUE;
        }
    }

    public int valueOf(int table, int place) {
        if (isNoTable(table) || isNoPlace(place)) {
            return NO_SUCH;
        }
        return now.values[table * PLACES + place];
    }

    public int sample(int ago) {
        if (isOutside(ago, 0, LATEST - 1)) {
            return BAD_VALUE;
        }
        return ago < now.made ? now.mixtureAgo(ago) : NONE;
    }

    public int beat(int one, int other) {
        if (isNoWheel(one) || isNoWheel(other)) {
            return NO_SUCH;
        }
        return Math.abs(now.wheels[one].image() - now.wheels[other].image());
    }

    public int count(int what) {
        switch (what) {
            case 0: return now.limit;
            case 1: return now.made;
            case 2: return now.clipped;
            case 3: return now.maskOfOn();
            case 4: return Math.min(now.sumOfOn(), now.limit);
            case 5: return now.sum;
            case 6: return now.rises;
            case 7: return now.samplesOfARoundOfAll();
            case 8: return pad.length;
            case 9: return history.kept;
            default: return BAD_VALUE;
        }
    }

    // ---- what if; nothing changes

    public int ifMade(int samples, int what) {
        if (isOutside(samples, 1, FARTHEST_SIGHT) || isOutside(what, 0, 3)) {
            return BAD_VALUE;
        }
        trial.takeOver(now);
        int greatest = 0;
        int least = GREATEST_CLIP;
        for (int i = 0; i < samples; i++) {
            trial.makeOne();
            greatest = Math.max(greatest, trial.mixtureAgo(0));
            least = Math.min(least, trial.mixtureAgo(0));
        }
        switch (what) {
            case 0: return greatest;
            case 1: return least;
            case 2: return trial.clipped - now.clipped;
            default: return trial.mixtureAgo(0);
        }
    }

    public int untilClip() {
        trial.takeOver(now);
        for (int samples = 1; samples <= FARTHEST_SIGHT; samples++) {
            trial.makeOne();
            if (trial.clipped > now.clipped) {
                return samples;
            }
        }
        return NONE;
    }

    public int bestStep(int samples, int what) {
        if (isOutside(samples, 2, ROUND) || isOutside(what, 0, 1)) {
            return BAD_VALUE;
        }
        // The powers of two are enough: each is the least of the steps that take as long as it does.
        int best = 1;
        for (int step = 2; step <= HALF_ROUND; step *= 2) {
            if (Math.abs(ROUND / step - samples) < Math.abs(ROUND / best - samples)) {
                best = step;
            }
        }
        return what == 0 ? best : ROUND / best;
    }

    public int untilRound(int wheel) {
        if (isNoWheel(wheel)) {
            return NO_SUCH;
        }
        trial.takeOver(now);
        return trial.wheels[wheel].goRound();
    }

    // ---- texts

    public int put(long characters) {
        int size = sizeOfText(characters);
        if (size == 0) {
            return BAD_VALUE;
        }
        if (pad.length + size > LONGEST_PAD) {
            return TOO_MANY;
        }
        for (int behind = size - 1; behind >= 0; behind--) {
            pad.append((char) (characters >>> (8 * behind) & 255));
        }
        return pad.length;
    }

    public int wipe() {
        int previous = pad.length;
        pad.length = 0;
        return previous;
    }

    public int fault() {
        return pad.findFault();
    }

    // ---- undo, saving

    public int undo() {
        if (history.kept == 0) {
            return NOT_POSSIBLE;
        }
        history.bringBack(now);
        return history.kept;
    }

    public int save(int slot) {
        if (isOutside(slot, 0, SLOTS - 1)) {
            return BAD_VALUE;
        }
        slots.sounds[slot].takeOver(now);
        slots.isSaved[slot] = true;
        return now.made;
    }

    public int restore(int slot) {
        if (isOutside(slot, 0, SLOTS - 1)) {
            return BAD_VALUE;
        }
        if (!slots.isSaved[slot]) {
            return NOT_POSSIBLE;
        }
        history.keep(now);
        now.takeOver(slots.sounds[slot]);
        return now.made;
    }

    // ---- helpers

    private static boolean isOutside(int number, int least, int greatest) {
        return number < least || number > greatest;
    }

    private static boolean isNoWheel(int wheel) {
        return isOutside(wheel, 0, WHEELS - 1);
    }

    private static boolean isNoTable(int table) {
        return isOutside(table, 0, TABLES - 1);
    }

    private static boolean isNoPlace(int place) {
        return isOutside(place, 0, PLACES - 1);
    }

    /** How many characters a number holds; 0 if it holds none, or anything that is not allowed. */
    private static int sizeOfText(long characters) {
        long rest = characters;
        int size = 0;
        while (size < CHARACTERS_AT_ONCE && (rest & 255) != 0) {
            if (isOutside((int) (rest & 255), LEAST_CODE, GREATEST_CODE)) {
                return 0;
            }
            rest >>>= 8;
            size++;
        }
        return rest == 0 ? size : 0;
    }

    /** Does the order that the pad read last; returns false if it had to be passed over. */
    private boolean doOrder() {
        if (pad.order == '.') {
            return now.makeSome(pad.samples);
        }
        if (isNoWheel(pad.wheel)) {
            return false;
        }
        Wheel meant = now.wheels[pad.wheel];
        switch (pad.order) {
            case 's':
                meant.changeStep(pad.number);
                return true;
            case 't':
                meant.table = pad.number;
                return true;
            case 'v':
                meant.volume = pad.number;
                return true;
            case 'o':
                meant.isOn = !meant.isOn;
                return true;
            case '>':
                return meant.addSweep(pad.number, pad.samples);
            default:
                return false;
        }
    }

    /** A wheel, and the row of its sweeps: the first sweep in the row is the one that goes on. */
    private static final class Wheel {
        int phase;
        int step = FIRST_STEP;
        int table;
        int volume = FIRST_VOLUME;
        boolean isOn;
        /** How many sweeps are in the row. */
        int sweeps;
        final int[] ends = new int[SWEEPS];
        final int[] lengths = new int[SWEEPS];
        /** Where the first sweep began, and how often it went on. */
        int begin;
        int gone;

        void takeOver(Wheel other) {
            phase = other.phase;
            step = other.step;
            table = other.table;
            volume = other.volume;
            isOn = other.isOn;
            sweeps = other.sweeps;
            System.arraycopy(other.ends, 0, ends, 0, SWEEPS);
            System.arraycopy(other.lengths, 0, lengths, 0, SWEEPS);
            begin = other.begin;
            gone = other.gone;
        }

        void changeStep(int newStep) {
            step = newStep;
            sweeps = 0;
        }

        /** Returns false, and adds nothing, if the row is full. */
        boolean addSweep(int end, int samples) {
            if (sweeps < 0 || sweeps >= SWEEPS) {
                return false;
            }
            if (sweeps == 0) {
                beginSweep();
            }
            ends[sweeps] = end;
            lengths[sweeps] = samples;
            sweeps++;
            return true;
        }

        private void beginSweep() {
            begin = step;
            gone = 0;
        }

        void goOn() {
            phase = (phase + step) % ROUND;
            if (sweeps > 0) {
                goOnSweeping();
            }
        }

        private void goOnSweeping() {
            int samples = lengths[0];
            if (samples <= 0) {
                return;
            }
            gone++;
            step = begin + (ends[0] - begin) * gone / samples;
            if (gone >= samples) {
                dropFirstSweep();
                beginSweep();
            }
        }

        private void dropFirstSweep() {
            sweeps--;
            for (int i = 0; i < sweeps && i + 1 < SWEEPS; i++) {
                ends[i] = ends[i + 1];
                lengths[i] = lengths[i + 1];
            }
        }

        int image() {
            return step <= HALF_ROUND ? step : ROUND - step;
        }

        int samplesOfARound() {
            if (step == 0) {
                return 1;
            }
            // A round is a power of two: all that it has in common with the step is the step's lowest bit.
            int common = step & -step;
            return ROUND / common;
        }

        int samplesOfSweeps() {
            int samples = 0;
            for (int i = 0; i < sweeps && i < SWEEPS; i++) {
                samples += lengths[i];
            }
            return sweeps > 0 ? samples - gone : 0;
        }

        int lastStep() {
            return sweeps > 0 && sweeps <= SWEEPS ? ends[sweeps - 1] : step;
        }

        /**
         * Goes on until the phase has become less; returns how many samples that takes, or NONE. Without
         * sweeps the rest is counted at once, as then each sample is like the other.
         */
        int goRound() {
            int samples = 0;
            while (sweeps > 0 && samples < FARTHEST_ROUND) {
                int before = phase;
                goOn();
                samples++;
                if (phase < before) {
                    return samples;
                }
            }
            if (step == 0) {
                return NONE;
            }
            samples += (ROUND - 1 - phase) / step + 1;
            return samples <= FARTHEST_ROUND ? samples : NONE;
        }
    }

    /** All that undo and the slots bring back: settings, tables, wheels, and what was made of them. */
    private static final class Sound {
        int limit = FIRST_CLIP;
        /** The tables, one behind the other. */
        final int[] values = new int[TABLES * PLACES];
        final Wheel[] wheels = new Wheel[WHEELS];
        int made;
        int clipped;
        /** The sum of all mixtures, left over by SUM_ROUND. */
        int sum;
        int rises;
        /** The mixture of the sample n is at the index n left over by LATEST. */
        final int[] latest = new int[LATEST];

        Sound() {
            for (int place = 0; place < PLACES; place++) {
                boolean isFirstHalf = place < PLACES / 2;
                values[place] = place;
                values[PLACES + place] = isFirstHalf ? 2 * place : 30 - 2 * place;
                values[2 * PLACES + place] = isFirstHalf ? GREATEST_VALUE : 0;
            }
            for (int i = 0; i < WHEELS; i++) {
                wheels[i] = new Wheel();
            }
            wheels[0].isOn = true;
        }

        void takeOver(Sound other) {
            limit = other.limit;
            System.arraycopy(other.values, 0, values, 0, TABLES * PLACES);
            for (int i = 0; i < WHEELS; i++) {
                wheels[i].takeOver(other.wheels[i]);
            }
            made = other.made;
            clipped = other.clipped;
            sum = other.sum;
            rises = other.rises;
            System.arraycopy(other.latest, 0, latest, 0, LATEST);
        }

        int valueGivenBy(Wheel wheel) {
            int index = wheel.table * PLACES + wheel.phase / PHASES_OF_A_PLACE;
            return index >= 0 && index < TABLES * PLACES ? values[index] * wheel.volume : 0;
        }

        /** What all wheels that are on give together, not clipped. */
        int sumOfOn() {
            int together = 0;
            for (int i = 0; i < WHEELS; i++) {
                if (wheels[i].isOn) {
                    together += valueGivenBy(wheels[i]);
                }
            }
            return together;
        }

        int maskOfOn() {
            int mask = 0;
            for (int i = 0; i < WHEELS; i++) {
                if (wheels[i].isOn) {
                    mask |= 1 << i;
                }
            }
            return mask;
        }

        /** All lengths are powers of two: the greatest one holds each other one in full. */
        int samplesOfARoundOfAll() {
            int samples = 1;
            for (int i = 0; i < WHEELS; i++) {
                if (wheels[i].isOn) {
                    samples = Math.max(samples, wheels[i].samplesOfARound());
                }
            }
            return samples;
        }

        boolean hasNoRoomFor(int samples) {
            return samples > MOST_MADE - made;
        }

        /** Returns false, and makes none, if that would be too many. */
        boolean makeSome(int samples) {
            if (hasNoRoomFor(samples)) {
                return false;
            }
            for (int i = 0; i < samples; i++) {
                makeOne();
            }
            return true;
        }

        void makeOne() {
            int together = sumOfOn();
            if (together > limit) {
                clipped++;
            }
            keepMixture(Math.min(together, limit));
            for (int i = 0; i < WHEELS; i++) {
                if (wheels[i].isOn) {
                    wheels[i].goOn();
                }
            }
        }

        private void keepMixture(int mixture) {
            if (made > 0 && mixture > mixtureAgo(0)) {
                rises++;
            }
            sum = (sum + mixture) % SUM_ROUND;
            latest[Math.floorMod(made, LATEST)] = mixture;
            made++;
        }

        /** The mixture so many samples before the latest one; only the LATEST ones are kept. */
        int mixtureAgo(int ago) {
            return latest[Math.floorMod(made - 1 - ago, LATEST)];
        }
    }

    /** The states before the latest changes, in a ring: the state of the record n is at n left over by STATES_KEPT. */
    private static final class History {
        final Sound[] states = new Sound[STATES_KEPT];
        /** Changes that were recorded, less those that were undone. */
        int recorded;
        int kept;

        History() {
            for (int i = 0; i < STATES_KEPT; i++) {
                states[i] = new Sound();
            }
        }

        void keep(Sound sound) {
            states[Math.floorMod(recorded, STATES_KEPT)].takeOver(sound);
            recorded++;
            kept = Math.min(kept + 1, STATES_KEPT);
        }

        /** Makes the sound what it was before the latest change, and forgets that change. */
        void bringBack(Sound sound) {
            recorded--;
            kept = Math.max(kept - 1, 0);
            sound.takeOver(states[Math.floorMod(recorded, STATES_KEPT)]);
        }
    }

    private static final class Slots {
        final Sound[] sounds = new Sound[SLOTS];
        final boolean[] isSaved = new boolean[SLOTS];

        Slots() {
            for (int i = 0; i < SLOTS; i++) {
                sounds[i] = new Sound();
            }
        }
    }

    /**
     * The pad, and its reader. All that reads goes on from the index at; where a character cannot stand,
     * it stops there, so that the index at is the fault then.
     */
    private static final class Pad {
        final char[] text = new char[LONGEST_PAD];
        int length;
        int at;

        /** The order that was read last: its sign, and what the order has of these numbers. */
        int order;
        int wheel;
        int number;
        int samples;

        void append(char character) {
            if (length >= 0 && length < LONGEST_PAD) {
                text[length] = character;
                length++;
            }
        }

        int findFault() {
            at = 0;
            for (int i = 0; i < LONGEST_PAD && readOrder(); i++) {
                if (at == length) {
                    return NONE;
                }
                if (!pass(';')) {
                    return at;
                }
            }
            return at;
        }

        boolean readOrder() {
            if (pass('.')) {
                order = '.';
                return readSamples();
            }
            wheel = readNumber(0, WHEELS - 1);
            if (wheel < 0) {
                return false;
            }
            order = signHere();
            switch (order) {
                case 's':
                    return readBehindSign(ROUND - 1);
                case 't':
                    return readBehindSign(TABLES - 1);
                case 'v':
                    return readBehindSign(GREATEST_VOLUME);
                case 'o':
                    at++;
                    return true;
                case '>':
                    return readBehindSign(ROUND - 1) && pass(':') && readSamples();
                default:
                    return false;
            }
        }

        private boolean readBehindSign(int greatest) {
            at++;
            number = readNumber(0, greatest);
            return number >= 0;
        }

        private boolean readSamples() {
            samples = readNumber(1, MOST_SAMPLES);
            return samples >= 0;
        }

        /**
         * Reads a number whose first digit is not below least, as far as its digits can stand; a digit
         * that cannot is left to whoever reads on, who does not want one. Returns -1 if there is no number.
         */
        private int readNumber(int least, int greatest) {
            int digit = digitHere();
            if (isOutside(digit, least, greatest)) {
                return -1;
            }
            int read = digit;
            at++;
            while (at < length && read > 0 && digitHere() >= 0 && 10 * read + digitHere() <= greatest) {
                read = 10 * read + digitHere();
                at++;
            }
            return read;
        }

        /** Goes on behind a sign, if it stands here. */
        boolean pass(int sign) {
            if (signHere() != sign) {
                return false;
            }
            at++;
            return true;
        }

        /** The character here, or -1 where the text has ended. */
        private int signHere() {
            return at >= 0 && at < length && at < LONGEST_PAD ? text[at] : -1;
        }

        /** The digit here, or -1 if there is none. */
        private int digitHere() {
            int sign = signHere();
            return isOutside(sign, '0', '9') ? -1 : sign - '0';
        }
    }
}
