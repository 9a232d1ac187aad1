/**
 * Long runs of calls, drawn by a fixed rule, on the program and on the model: all promises. Ordinary
 * arguments are drawn most often, then the edges, then any number at all.
 */
final class ModelTest {
    private static final int RUNS = 300;
    private static final int CALLS = 512;
    private static final int[] EDGES = {
        Integer.MIN_VALUE, -6, -2, -1, 0, 1, 2, 3, 4, 5, 9, 10, 11, 15, 16, 17, 31, 32, 400, 960, 961, 999, 1000, 2000, 2001, 4095,
        4096, 32767, 32768, 32769, 49152, 65535, 65536, 65537, 70000, 999999, Integer.MAX_VALUE - 1, Integer.MAX_VALUE,
    };

    private static long seed;

    private PhaseTones x = new PhaseTones();
    private Model m = new Model();
    private String rest = "";

    public static void main(String[] args) {
        int runs = args.length > 0 ? Integer.parseInt(args[0]) : RUNS;
        for (int run = 1; run <= runs && Due.wrongSoFar() == 0; run++) {
            seed = 7919L * run;
            new ModelTest().oneRun(run);
        }
        Due.end();
    }

    private static int draw(int below) {
        seed = seed * 6364136223846793005L + 1442695040888963407L;
        return (int) ((seed >>> 33) % below);
    }

    /** Most often a number from least to greatest; else an edge, or any number. */
    private static int number(int least, int greatest) {
        int kind = draw(40);
        if (kind == 0) {
            return EDGES[draw(EDGES.length)];
        }
        if (kind == 1) {
            return draw(2) == 0 ? least - 1 : greatest + 1;
        }
        if (kind == 2) {
            return draw(1 << 30) * 4 + draw(4);
        }
        if (kind < 8) {
            return draw(2) == 0 ? least : greatest;
        }
        return least + draw(greatest - least + 1);
    }

    private static int step() {
        return draw(4) == 0 ? number(0, 65535) : number(0, 65536 >> draw(16)) << draw(4);
    }

    private static int samples() {
        return draw(3) == 0 ? number(1, 999) : number(1, 12);
    }

    private void oneRun(int run) {
        for (int call = 1; call <= CALLS && Due.wrongSoFar() == 0; call++) {
            String where = "run " + run + ", call " + call + ": ";
            int kind = draw(100);
            if (kind < 45) {
                change(where, draw(10));
            } else if (kind < 60) {
                text(where);
            } else if (kind < 70) {
                history(where);
            } else {
                ask(where, draw(10));
            }
        }
        askForAll("run " + run + ", at its end: ");
    }

    private void change(String where, int kind) {
        int w = number(0, 3);
        int a = number(0, 3);
        switch (kind) {
            case 0: {
                int value = draw(2) == 0 ? number(1, 960) : number(1, 200);
                Due.is(where + "clip(" + value + ")", x.clip(value), m.clip(value));
                break;
            }
            case 1: {
                int place = number(0, 15);
                int value = number(0, 15);
                Due.is(where + "fill(" + w + ", " + place + ", " + value + ")", x.fill(w, place, value), m.fill(w, place, value));
                break;
            }
            case 2: {
                int step = step();
                Due.is(where + "step(" + w + ", " + step + ")", x.step(w, step), m.step(w, step));
                break;
            }
            case 3:
                Due.is(where + "table(" + w + ", " + a + ")", x.table(w, a), m.table(w, a));
                break;
            case 4: {
                int volume = number(0, 16);
                Due.is(where + "volume(" + w + ", " + volume + ")", x.volume(w, volume), m.volume(w, volume));
                break;
            }
            case 5: {
                boolean isOn = draw(3) != 0;
                Due.is(where + "turn(" + w + ", " + isOn + ")", x.turn(w, isOn), m.turn(w, isOn));
                break;
            }
            case 6: {
                int phase = number(0, 65535);
                Due.is(where + "phase(" + w + ", " + phase + ")", x.phase(w, phase), m.phase(w, phase));
                break;
            }
            case 7: {
                int end = step();
                int samples = samples();
                Due.is(where + "sweep(" + w + ", " + end + ", " + samples + ")", x.sweep(w, end, samples), m.sweep(w, end, samples));
                break;
            }
            default: {
                int samples = samples();
                Due.is(where + "make(" + samples + ")", x.make(samples), m.make(samples));
            }
        }
    }

    private void history(String where) {
        int slot = number(0, 1);
        int kind = draw(7);
        if (kind < 4) {
            Due.is(where + "undo()", x.undo(), m.undo());
        } else if (kind < 6) {
            Due.is(where + "save(" + slot + ")", x.save(slot), m.save(slot));
        } else {
            Due.is(where + "restore(" + slot + ")", x.restore(slot), m.restore(slot));
        }
    }

    /** Puts the next part of a drawn text, or, if all of it is put, does something with the pad. */
    private void text(String where) {
        int kind = draw(24);
        if (kind == 0) {
            long any = ((long) draw(1 << 30) << 34 ^ (long) draw(1 << 30) << 4) >>> (8 * draw(8));
            Due.is(where + "put(" + any + ")", x.put(any), m.put(any));
        } else if (kind == 1) {
            Due.is(where + "wipe()", x.wipe(), m.wipe());
        } else if (!rest.isEmpty()) {
            int size = Math.min(rest.length(), 3 + draw(6));
            long part = Due.packed(rest.substring(0, size));
            rest = rest.substring(size);
            Due.is(where + "put(" + part + ")", x.put(part), m.put(part));
        } else if (kind < 8) {
            Due.is(where + "fault()", x.fault(), m.fault());
        } else {
            Due.is(where + "run()", x.run(), m.run());
            Due.is(where + "wipe()", x.wipe(), m.wipe());
            rest = drawText();
        }
    }

    private static String drawText() {
        StringBuilder text = new StringBuilder();
        int orders = 1 + draw(7);
        for (int i = 0; i < orders; i++) {
            text.append(i == 0 ? "" : ";").append(drawOrder());
        }
        String characters = "0123456789stvo>:.;x";
        if (draw(3) == 0) {
            text.setCharAt(draw(text.length()), characters.charAt(draw(characters.length())));
        }
        if (draw(6) == 0) {
            text.deleteCharAt(draw(text.length()));
        }
        return text.toString();
    }

    private static String drawOrder() {
        int wheel = Math.max(-1, Math.min(5, number(0, 3)));
        switch (draw(7)) {
            case 0: return wheel + "s" + step();
            case 1: return wheel + "t" + number(0, 3);
            case 2: return wheel + "v" + number(0, 16);
            case 3: return wheel + "o";
            case 4: return "." + samples();
            default: return wheel + ">" + step() + ":" + samples();
        }
    }

    private void ask(String where, int kind) {
        int w = number(0, 3);
        int a = number(0, 3);
        int many = draw(2) == 0 ? number(1, 2000) : number(1, 40);
        int length = number(2, 65536 >> draw(15));
        int bit = number(0, 1);
        switch (kind) {
            case 0: {
                int what = number(0, 10);
                Due.is(where + "wheel(" + w + ", " + what + ")", x.wheel(w, what), m.wheel(w, what));
                break;
            }
            case 1: {
                int place = number(0, 15);
                Due.is(where + "valueOf(" + w + ", " + place + ")", x.valueOf(w, place), m.valueOf(w, place));
                break;
            }
            case 2: {
                int ago = number(0, 31);
                Due.is(where + "sample(" + ago + ")", x.sample(ago), m.sample(ago));
                break;
            }
            case 3:
                Due.is(where + "beat(" + w + ", " + a + ")", x.beat(w, a), m.beat(w, a));
                break;
            case 4:
            case 5: {
                int what = number(0, 9);
                Due.is(where + "count(" + what + ")", x.count(what), m.count(what));
                break;
            }
            case 6:
                Due.is(where + "ifMade(" + many + ", " + a + ")", x.ifMade(many, a), m.ifMade(many, a));
                break;
            case 7:
                Due.is(where + "untilClip()", x.untilClip(), m.untilClip());
                break;
            case 8:
                Due.is(where + "bestStep(" + length + ", " + bit + ")", x.bestStep(length, bit), m.bestStep(length, bit));
                break;
            default:
                Due.is(where + "untilRound(" + w + ")", x.untilRound(w), m.untilRound(w));
        }
    }

    private void askForAll(String where) {
        for (int what = 0; what <= 9; what++) {
            Due.is(where + "count(" + what + ")", x.count(what), m.count(what));
        }
        for (int wheel = 0; wheel < 4; wheel++) {
            for (int what = 0; what <= 10; what++) {
                Due.is(where + "wheel(" + wheel + ", " + what + ")", x.wheel(wheel, what), m.wheel(wheel, what));
            }
            Due.is(where + "untilRound(" + wheel + ")", x.untilRound(wheel), m.untilRound(wheel));
            for (int place = 0; place < 16; place++) {
                Due.is(where + "valueOf(" + wheel + ", " + place + ")", x.valueOf(wheel, place), m.valueOf(wheel, place));
            }
        }
        for (int ago = 0; ago < 32; ago++) {
            Due.is(where + "sample(" + ago + ")", x.sample(ago), m.sample(ago));
        }
        Due.is(where + "untilClip()", x.untilClip(), m.untilClip());
        Due.is(where + "fault()", x.fault(), m.fault());
    }
}
