/** Promises 11 and 21 to 23: the pad, its fault, and what its orders do. */
final class TextsTest {
    public static void main(String[] args) {
        putAnswers();
        putLimit();
        wipe();
        faultOfGoodTexts();
        faultOfBadTexts();
        faultsOfLongTexts();
        runEveryOrder();
        runPassesOver();
        runAnswers();
        Due.end();
    }

    private static void putAnswers() {
        PhaseTones x = new PhaseTones();
        long[] bad = {
            0L, 32L, 127L, 255L, -1L, Long.MIN_VALUE, Long.MAX_VALUE,
            0x3000L, 0x300030L, 0x3000000000000030L, 0x2030L, 0x3020L, 0x7F30L, 0x8030303030303030L,
            0x2030303030303030L, 0xFF30L, 0x100000030L,
        };
        for (long characters : bad) {
            Due.is("put(" + characters + ")", x.put(characters), Due.BAD_VALUE);
        }
        Due.is("a bad put changes nothing", x.count(8), 0);
        Due.is("put of 33", x.put(33L), 1);
        Due.is("put of 126", x.put(126L), 2);
        Due.is("put of 8", x.put(Due.packed("!~!~!~!~")), 10);
        Due.is("put is no change", x.count(9), 0);
        x.wipe();
        x.put(Due.packed("0s"));
        x.put(Due.packed("12"));
        x.put(Due.packed("345"));
        Due.is("run() of what was put bit by bit", x.run(), 1);
        Due.is("the first character came first", x.wheel(0, 1), 12345);
    }

    private static void putLimit() {
        PhaseTones x = new PhaseTones();
        Due.putText(x, ".111;.111;.111;.111;.111;.111;.111;.111;.111;.111;.111;.11");
        Due.is("58 characters", x.count(8), 58);
        Due.is("61 are too many", x.put(Due.packed("1;.")), Due.TOO_MANY);
        Due.is("66 are too many", x.put(Due.packed("11111111")), Due.TOO_MANY);
        Due.is("a bad one comes first", x.put(Due.packed("11111111") & 0xFFFFFF00FFFFFFFFL), Due.BAD_VALUE);
        Due.is("too many change nothing", x.count(8), 58);
        Due.is("60 characters", x.put(Due.packed("1;")), 60);
        Due.is("one more is too many", x.put(49L), Due.TOO_MANY);
        Due.is("fault of a full pad", x.fault(), 60);
        Due.is("run() of a faulty pad", x.run(), Due.BAD_TEXT);
        Due.is("which keeps it", x.wipe(), 60);
        Due.putText(x, "0v1;0v2;0v3;0v4;0v5;0v6;0v7;0v8;0v9;0v0;0v1;0v2;0v3;0v4;0v15");
        Due.is("fault of 60 good characters", x.fault(), Due.NONE);
        Due.is("run() of them", x.run(), 15);
        Due.is("the last one came last", x.wheel(0, 3), 15);
    }

    private static void wipe() {
        PhaseTones x = new PhaseTones();
        Due.is("wipe() of nothing", x.wipe(), 0);
        x.put(Due.packed("0v1;1"));
        Due.is("wipe()", x.wipe(), 5);
        Due.is("count(8)", x.count(8), 0);
        Due.is("fault of nothing", x.fault(), 0);
        Due.is("wipe() is no change", x.count(9), 0);
    }

    private static void dueFault(String text, int fault) {
        PhaseTones x = new PhaseTones();
        Due.putText(x, text);
        Due.is("fault of \"" + text + "\"", x.fault(), fault);
        Due.is("fault of \"" + text + "\" again", x.fault(), fault);
        if (fault != Due.NONE) {
            Due.is("run() of \"" + text + "\"", x.run(), Due.BAD_TEXT);
            Due.is("pad behind it", x.count(8), text.length());
            Due.is("changes behind it", x.count(9), 0);
        }
    }

    private static void faultOfGoodTexts() {
        String[] good = {
            "0s0", "3s65535", "1s9999", "2s60000", "0t0", "3t3", "0v0", "1v16", "2v9", "0o", "3o", "0>0:1", "3>65535:999",
            ".1", ".999", ".90", ".100", "0o;1o", "0s1;1t2;2v3;3o;0>4:5;.6",
        };
        for (String text : good) {
            dueFault(text, Due.NONE);
        }
    }

    private static void faultOfBadTexts() {
        Object[][] bad = {
            {"", 0}, {"4", 0}, {"s", 0}, {"-1s1", 0}, {";", 0}, {"o", 0}, {"~", 0},
            {"0", 1}, {"00", 1}, {"10s1", 1}, {"0;", 1}, {"0x", 1}, {"0S1", 1}, {"0.", 1}, {"0:", 1}, {"0!", 1},
            {"0s", 2}, {"0s-", 2}, {"0ss", 2}, {"0s;", 2}, {"0s00", 3}, {"0s01", 3}, {"0s1:", 3}, {"0s1s", 3}, {"0s1;", 4},
            {"0s65536", 6}, {"0s65540", 6}, {"0s65600", 6}, {"0s66000", 6}, {"0s70000", 6}, {"0s99999", 6},
            {"0s100000", 7}, {"0s655350", 7}, {"0s6554", Due.NONE}, {"0s7000", Due.NONE}, {"0s6553;", 7},
            {"0t", 2}, {"0t4", 2}, {"0t9", 2}, {"0t00", 3}, {"0t10", 3}, {"0t1;", 4}, {"0to", 2},
            {"0v", 2}, {"0v17", 3}, {"0v20", 3}, {"0v160", 4}, {"0v00", 3}, {"0v1v", 3}, {"0o1", 2}, {"0oo", 2}, {"0o;", 3},
            {"0o;;", 3}, {"0>", 2}, {"0>1", 3}, {"0>1:", 4}, {"0>:1", 2}, {"0>1;1", 3}, {"0>65536:1", 6}, {"0>1:0", 4},
            {"0>1:1000", 7}, {"0>1:01", 4}, {"0>00:1", 3}, {"0>1:1:", 5}, {"0>1:999", Due.NONE}, {"0>1:9999", 7}, {".", 1},
            {".0", 1}, {".01", 1}, {".1000", 4}, {".999.", 4}, {".;", 1}, {".o", 1}, {".1;.", 4}, {".1;0", 4}, {".1;4", 3},
            {".1,", 2},
        };
        for (Object[] row : bad) {
            dueFault((String) row[0], (Integer) row[1]);
        }
    }

    private static void faultsOfLongTexts() {
        dueFault("0>65535:999;1>65535:999;2>65535:999;3>65535:999;.999;.999;o", 58);
        dueFault("0>65535:999;1>65535:999;2>65535:999;3>65535:999;.999;.999;0", 59);
        dueFault("0>65535:999;1>65535:999;2>65535:999;3>65535:999;.999;.999;0o", Due.NONE);
        dueFault("0o;0o;0o;0o;0o;0o;0o;0o;0o;0o;0o;0o;0o;0o;0o;0o;0o;0o;0o;0o", Due.NONE);
        dueFault(".1;.1;.1;.1;.1;.1;.1;.1;.1;.1;.1;.1;.1;.1;.1;.1;.1;.1;.1;.1;", 60);
    }

    private static void runEveryOrder() {
        PhaseTones x = new PhaseTones();
        Due.putText(x, "1s2000;1t2;1v16;1o;0o;2>3000:10;2>4000:20;.7");
        Due.is("run()", x.run(), 8);
        Due.is("step", x.wheel(1, 1), 2000);
        Due.is("table", x.wheel(1, 2), 2);
        Due.is("volume", x.wheel(1, 3), 16);
        Due.is("wheels that are on", x.count(3), 2);
        Due.is("sweeps", x.wheel(2, 5), 2);
        Due.is("samples of the sweeps", x.wheel(2, 9), 30);
        Due.is("step behind them", x.wheel(2, 10), 4000);
        Due.is("samples", x.count(1), 7);
        Due.is("sum", x.count(5), 7 * 240);
        Due.is("phase of the wheel that is on", x.wheel(1, 0), 14000);
        Due.is("phase of one that is off", x.wheel(0, 0), 0);
        Due.is("the pad is empty", x.count(8), 0);
        Due.is("run() is one change", x.count(9), 1);
        Due.putText(x, "2s5;1o;1o;0o;.999");
        Due.is("run() again", x.run(), 5);
        Due.is("its step drops the sweeps", x.wheel(2, 5), 0);
        Due.is("turned twice, and once", x.count(3), 3);
        Due.is("samples then", x.count(1), 1006);
        Due.is("undo()", x.undo(), 1);
        Due.is("sweeps are back", x.wheel(2, 5), 2);
        Due.is("samples are back", x.count(1), 7);
        Due.is("the pad is still empty", x.count(8), 0);
        Due.is("undo() of the first", x.undo(), 0);
        Due.isTrue("all is as it was", Due.soundOf(new PhaseTones()).equals(Due.soundOf(x)));
    }

    private static void runPassesOver() {
        PhaseTones x = new PhaseTones();
        Due.putText(x, "3>1:1;3>2:2;3>3:3;3>4:4;3>5:5;3v1");
        Due.is("the fifth sweep is passed over", x.run(), 5);
        Due.is("the order behind it is done", x.wheel(3, 3), 1);
        Due.is("four sweeps", x.wheel(3, 9), 10);
        Due.putText(x, "3>6:6");
        Due.is("all are passed over", x.run(), 0);
        Due.is("it is a change even so", x.count(9), 2);
        Due.is("and the pad is empty", x.count(8), 0);
    }

    private static void runAnswers() {
        PhaseTones x = new PhaseTones();
        Due.is("run() of nothing", x.run(), Due.BAD_TEXT);
        Due.putText(x, "0v1;0v2;");
        Due.is("run() of a text that ends too early", x.run(), Due.BAD_TEXT);
        Due.is("nothing was done", x.wheel(0, 3), 8);
        Due.is("nothing is recorded", x.count(9), 0);
        Due.is("the pad is as it was", x.put(Due.packed("0v3")), 11);
        Due.is("run() of it, completed", x.run(), 3);
        Due.is("the last one counts", x.wheel(0, 3), 3);
    }
}
