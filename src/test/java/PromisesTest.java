/**
 * Each promise of the document, with answers that were worked out by hand from its words;
 * noisy sweeps are held against the object's own hear, find and bring, seed by seed.
 */
public final class PromisesTest {
    private static final int LOW = Integer.MIN_VALUE;
    private static final int HIGH = Integer.MAX_VALUE;
    private static final Check check = new Check();

    public static void main(String[] args) {
        constants();
        newObject();
        bits();
        clear();
        bit();
        mask();
        code();
        amp();
        call();
        taps();
        air();
        lose();
        scrambled();
        voice();
        hear();
        sample();
        least();
        find();
        likeness();
        bring();
        brought();
        errors();
        sweep();
        whole();
        count();
        check.end();
    }

    private static void due(String what, long got, long want) {
        check.due(what, got, want);
    }

    /** An object with an 8 bit message that has been heard, found and brought back without noise. */
    private static NoiseBench broughtBack() {
        NoiseBench x = new NoiseBench();
        x.bits(0b10110101, 8);
        hearAndBring(x);
        return x;
    }

    private static void hearAndBring(NoiseBench x) {
        x.hear();
        x.find();
        x.bring(1, 0, 0, 0);
    }

    private static void dueState(String what, NoiseBench x, int samples, int place, int brought) {
        due(what + ": samples", x.count(2), samples);
        due(what + ": place", x.count(3), place);
        due(what + ": brought", x.count(4), brought);
    }

    private static void dueEnded(String what, NoiseBench x) {
        dueState(what, x, -1, -1, 0);
        due(what + ": sample", x.sample(0), LOW);
        due(what + ": likeness", x.likeness(0), LOW);
        due(what + ": find", x.find(), -3);
        due(what + ": bring", x.bring(1, 0, 0, 0), -3);
        due(what + ": errors", x.errors(), -3);
    }

    private static void dueStill(String what, NoiseBench x) {
        dueState(what, x, 38, 0, 1);
        due(what + ": errors", x.errors(), 0);
    }

    private static void constants() {
        due("NONE", NoiseBench.NONE, -1);
        due("BAD", NoiseBench.BAD, -2);
        due("NOT", NoiseBench.NOT, -3);
        due("FULL", NoiseBench.FULL, -4);
    }

    private static void newObject() {
        NoiseBench x = new NoiseBench();
        due("1: bits", x.count(0), 0);
        due("1: voices", x.count(1), 14);
        dueEnded("1: new", x);
        int[] signs = {1, 1, -1, 1, -1, 1, -1, -1};
        for (int i = 0; i < 8; i++) {
            due("1: call " + i, x.voice(i), 10 * signs[i]);
        }
        due("1: least", x.least(5), 1);
        due("1: no delay", x.hear(), 22);
        for (int i = 0; i < 8; i++) {
            due("1: plain tap, no noise " + i, x.sample(i), 10 * signs[i]);
        }
        // MASK 0, and G 13 and H 15: M 1 gives 1 1, M 2 gives 0 1, M 4 gives 1 1, M 8 gives 1 1
        x.bits(1, 1);
        due("1: mask", x.scrambled(0), 1);
        int[] codeBits = {1, 1, 0, 1, 1, 1, 1, 1};
        for (int i = 0; i < 8; i++) {
            due("1: code " + i, x.voice(8 + i), codeBits[i] == 1 ? 10 : -10);
        }
    }

    private static void bits() {
        NoiseBench x = new NoiseBench();
        due("2: n 0", x.bits(1, 0), -2);
        due("2: n 41", x.bits(1, 41), -2);
        due("2: n least", x.bits(1, LOW), -2);
        due("2: n greatest", x.bits(1, HIGH), -2);
        due("2: nothing came", x.count(0), 0);
        due("2: only the lowest", x.bits(-2L, 3), 3);
        due("2: highest first 0", x.bit(0), 1);
        due("2: highest first 2", x.bit(2), 0);
        due("2: behind", x.bits(1L << 36, 37), 40);
        due("2: behind 2", x.bit(2), 0);
        due("2: behind 3", x.bit(3), 1);
        due("2: behind 4", x.bit(4), 0);
        due("2: full", x.bits(0, 1), -4);
        due("2: bad ahead of full", x.bits(0, 41), -2);
        due("2: still 40", x.count(0), 40);
        NoiseBench y = new NoiseBench();
        due("2: forty at once", y.bits(0x123456789aL | (-1L << 40), 40), 40);
        for (int i = 0; i < 40; i++) {
            due("2: forty " + i, y.bit(i), (0x123456789aL >> (39 - i)) & 1);
        }
        NoiseBench z = broughtBack();
        due("2: full ends nothing", z.bits(0, 33), -4);
        due("2: bad ends nothing", z.bits(0, 0), -2);
        dueStill("2", z);
        z.bits(0, 1);
        dueEnded("2: ends", z);
    }

    private static void clear() {
        NoiseBench x = broughtBack();
        due("3: had", x.clear(), 8);
        dueEnded("3: ends", x);
        due("3: empty", x.count(0), 0);
        due("3: no bit", x.bit(0), -2);
        due("3: voices", x.count(1), 14);
        due("3: had none", x.clear(), 0);
        due("3: room again", x.bits(0, 40), 40);
        x.clear();
        x.bits(1, 2);
        due("3: nothing of the old", x.bit(0), 0);
        x.clear();
        x.mask(127);
        x.bits(0, 2);
        due("3: scrambled anew", x.scrambled(1), 0);
        x.clear();
        x.hear();
        due("3: clear of an empty one", x.clear(), 0);
        dueEnded("3: also to what it was", x);
    }

    private static void bit() {
        NoiseBench x = broughtBack();
        int[] message = {1, 0, 1, 1, 0, 1, 0, 1};
        for (int i = 0; i < 8; i++) {
            due("4: bit " + i, x.bit(i), message[i]);
        }
        due("4: -1", x.bit(-1), -2);
        due("4: 8", x.bit(8), -2);
        due("4: least", x.bit(LOW), -2);
        due("4: greatest", x.bit(HIGH), -2);
        dueStill("4: asks alone", x);
    }

    private static void mask() {
        NoiseBench x = broughtBack();
        due("5: -1", x.mask(-1), -2);
        due("5: 128", x.mask(128), -2);
        due("5: least", x.mask(LOW), -2);
        dueStill("5", x);
        due("5: 0", x.mask(0), 1);
        dueEnded("5: also to what it was", x);
        due("5: 127", x.mask(127), 1);
        due("5: 1", x.mask(1), 1);
        // each bit is changed if the scrambled one ahead of it is 1: 10110101
        int[] made = {1, 1, 0, 1, 1, 0, 0, 1};
        for (int i = 0; i < 8; i++) {
            due("5: mask 1, " + i, x.scrambled(i), made[i]);
        }
    }

    private static void code() {
        NoiseBench x = broughtBack();
        due("6: g 0", x.code(0, 1), -2);
        due("6: g 16", x.code(16, 1), -2);
        due("6: h 0", x.code(1, 0), -2);
        due("6: h 16", x.code(1, 16), -2);
        due("6: least", x.code(LOW, HIGH), -2);
        dueStill("6", x);
        due("6: as it was", x.code(13, 15), 1);
        dueEnded("6: also to what it was", x);
        due("6: 1 8", x.code(1, 8), 1);
        // G sees the bit itself, H the one three ahead of it
        int[] message = {1, 0, 1, 1, 0, 1, 0, 1, 0, 0, 0};
        for (int i = 0; i < 11; i++) {
            due("6: g " + i, x.voice(8 + 2 * i), message[i] == 1 ? 10 : -10);
            due("6: h " + i, x.voice(9 + 2 * i), i >= 3 && message[i - 3] == 1 ? 10 : -10);
        }
        due("6: 15 1", x.code(15, 1), 1);
    }

    private static void amp() {
        NoiseBench x = broughtBack();
        due("7: 0", x.amp(0), -2);
        due("7: 101", x.amp(101), -2);
        due("7: -1", x.amp(-1), -2);
        dueStill("7", x);
        due("7: as it was", x.amp(10), 1);
        dueEnded("7: also to what it was", x);
        due("7: 1", x.amp(1), 1);
        due("7: call", x.voice(2), -1);
        due("7: code", x.voice(8), 1);
        due("7: 100", x.amp(100), 1);
        due("7: call 100", x.voice(2), -100);
        due("7: code 100", x.voice(8), 100);
    }

    private static void call() {
        NoiseBench x = broughtBack();
        due("8: -1", x.call(-1, 0), -2);
        due("8: 17", x.call(17, 0), -2);
        due("8: 32", x.call(32, 0), -2);
        due("8: bits above 16", x.call(16, 65536), -2);
        due("8: bits above 3", x.call(3, 8), -2);
        due("8: bits above none", x.call(0, 1), -2);
        due("8: less than 0", x.call(16, -1), -2);
        due("8: the least", x.call(8, LOW), -2);
        dueStill("8", x);
        due("8: as it was", x.call(8, 212), 1);
        dueEnded("8: also to what it was", x);
        due("8: 16", x.call(16, 65535), 1);
        due("8: 16 voices", x.count(1), 38);
        due("8: last sign", x.voice(15), 10);
        due("8: 3", x.call(3, 4), 1);
        due("8: highest first", x.voice(0), 10);
        due("8: then 0", x.voice(1), -10);
        due("8: then 0 too", x.voice(2), -10);
        due("8: then code", x.voice(3), 10);
        due("8: none", x.call(0, 0), 1);
        due("8: none, voices", x.count(1), 22);
        due("8: none, code at once", x.voice(0), 10);
    }

    private static void taps() {
        NoiseBench x = broughtBack();
        due("9: a", x.taps(21, 0, 0, 0), -2);
        due("9: b", x.taps(0, -21, 0, 0), -2);
        due("9: c", x.taps(0, 0, 21, 0), -2);
        due("9: d", x.taps(0, 0, 0, -21), -2);
        due("9: least", x.taps(LOW, 0, 0, 0), -2);
        dueStill("9", x);
        due("9: as it was", x.taps(1, 0, 0, 0), 1);
        dueEnded("9: also to what it was", x);
        due("9: edges", x.taps(20, -20, 20, -20), 1);
        x.taps(1, 2, 3, 4);
        due("9: heard", x.hear(), 38);
        // the call is 1 1 -1 1 -1 .. and AMP is 10
        int[] samples = {10, 30, 40, 60, 20, -20};
        for (int i = 0; i < samples.length; i++) {
            due("9: sample " + i, x.sample(i), samples[i]);
        }
        // the last voices are 1 1 1 1, for the last bit is 1
        due("9: behind the last voice", x.sample(30), 90);
        due("9: then", x.sample(31), 70);
        due("9: then", x.sample(32), 40);
        due("9: nothing more", x.sample(33), 0);
    }

    private static void air() {
        NoiseBench x = broughtBack();
        due("10: delay -1", x.air(-1, 0, 1), -2);
        due("10: delay 31", x.air(31, 0, 1), -2);
        due("10: noise -1", x.air(0, -1, 1), -2);
        due("10: noise 501", x.air(0, 501, 1), -2);
        dueStill("10", x);
        due("10: as it was", x.air(0, 0, 1), 1);
        dueEnded("10: also to what it was", x);
        due("10: edges", x.air(30, 500, LOW), 1);
        due("10: edges", x.air(30, 0, HIGH), 1);
        due("10: samples", x.hear(), 68);
        due("10: ahead", x.sample(29), 0);
        due("10: the first", x.sample(30), 10);
        // z of SEED 1: 1103527590, then 2524885223 - 2^31 = 377401575: 16838 and 5758
        x.air(2, 500, 1);
        x.hear();
        due("10: draw 1", x.sample(0), 16838 % 1001 - 500);
        due("10: draw 2", x.sample(1), 5758 % 1001 - 500);
        x.air(2, 7, 1);
        x.hear();
        due("10: less noise 1", x.sample(0), 16838 % 15 - 7);
        due("10: less noise 2", x.sample(1), 5758 % 15 - 7);
        // SEED -1: z is 12345 - 1103515245 and 2^31, so 1043980748: 15929
        x.air(1, 500, -1);
        x.hear();
        due("10: a seed below 0", x.sample(0), 15929 % 1001 - 500);
    }

    private static void lose() {
        NoiseBench x = broughtBack();
        due("11: a -1", x.lose(-1, 0), -2);
        due("11: a 201", x.lose(201, 0), -2);
        due("11: n -1", x.lose(0, -1), -2);
        due("11: n 201", x.lose(0, 201), -2);
        dueStill("11", x);
        due("11: as it was", x.lose(0, 0), 1);
        dueEnded("11: also to what it was", x);
        x.hear();
        due("11: none", x.sample(0), 10);
        due("11: 2 from 1", x.lose(1, 2), 1);
        x.hear();
        int[] samples = {10, 0, 0, 10};
        for (int i = 0; i < samples.length; i++) {
            due("11: lost " + i, x.sample(i), samples[i]);
        }
        due("11: edges", x.lose(200, 200), 1);
        x.hear();
        due("11: behind all", x.sample(37), 0);
        due("11: none of these", x.sample(29), 10);
        // the draws go on through what is lost
        x.air(2, 500, 1);
        x.lose(0, 1);
        x.hear();
        due("11: lost draw", x.sample(0), 0);
        due("11: next draw", x.sample(1), 5758 % 1001 - 500);
    }

    private static void scrambled() {
        NoiseBench x = broughtBack();
        due("12: -1", x.scrambled(-1), -2);
        due("12: 8", x.scrambled(8), -2);
        due("12: least", x.scrambled(LOW), -2);
        dueStill("12: asks alone", x);
        NoiseBench y = new NoiseBench();
        y.mask(64);
        y.bits(1L << 15, 16);
        // only R's highest bit: the one seven ahead
        for (int i = 0; i < 16; i++) {
            due("12: mask 64, " + i, y.scrambled(i), i % 7 == 0 ? 1 : 0);
        }
        y.mask(3);
        int[] made = {1, 1, 0, 1, 1, 0};
        for (int i = 0; i < made.length; i++) {
            due("12: mask 3, " + i, y.scrambled(i), made[i]);
        }
    }

    private static void voice() {
        NoiseBench x = broughtBack();
        due("13: -1", x.voice(-1), LOW);
        due("13: 30", x.voice(30), LOW);
        due("13: least", x.voice(LOW), LOW);
        due("13: greatest", x.voice(HIGH), LOW);
        dueStill("13: asks alone", x);
        // M: 1, 2, 5, 11, 6, 13, 10, 5, 10, 4, 8
        int[] g = {1, 0, 0, 0, 1, 1, 1, 0, 1, 1, 1};
        int[] h = {1, 1, 0, 1, 0, 1, 0, 0, 0, 1, 1};
        for (int i = 0; i < 11; i++) {
            due("13: g " + i, x.voice(8 + 2 * i), g[i] == 1 ? 10 : -10);
            due("13: h " + i, x.voice(9 + 2 * i), h[i] == 1 ? 10 : -10);
        }
        NoiseBench y = new NoiseBench();
        y.code(1, 1);
        y.mask(1);
        y.bits(2, 2);
        due("13: scrambled first", y.voice(8), 10);
        due("13: scrambled then", y.voice(10), 10);
        due("13: the tail is not scrambled", y.voice(12), -10);
    }

    private static void hear() {
        NoiseBench x = new NoiseBench();
        due("14: empty", x.hear(), 22);
        x.bits(0, 40);
        x.call(16, 0);
        x.air(30, 0, 1);
        due("14: the most", x.hear(), 140);
        x.clear();
        x.call(0, 0);
        x.air(0, 0, 1);
        due("14: the least", x.hear(), 14);
        NoiseBench y = broughtBack();
        due("14: again", y.hear(), 38);
        dueStill("14: nothing of 1 or 2 was changed", y);
    }

    private static void sample() {
        NoiseBench x = new NoiseBench();
        due("15: not", x.sample(0), LOW);
        x.hear();
        due("15: -1", x.sample(-1), LOW);
        due("15: 22", x.sample(22), LOW);
        due("15: 139", x.sample(139), LOW);
        due("15: greatest", x.sample(HIGH), LOW);
        due("15: last", x.sample(21), 0);
        x.amp(100);
        x.call(4, 15);
        x.taps(20, 20, 20, 20);
        x.hear();
        due("15: 2000", x.sample(0), 2000);
        due("15: 4000", x.sample(1), 4000);
        due("15: 4000 at most", x.sample(3), 4000);
        x.call(4, 0);
        x.hear();
        due("15: -4000 at least", x.sample(3), -4000);
        sampleOfTheMost();
    }

    /** The last of the most SAMPLES that there can be is a draw alone. */
    private static void sampleOfTheMost() {
        NoiseBench x = new NoiseBench();
        x.bits(-1, 40);
        x.call(16, 1);
        x.air(30, 500, 99);
        x.hear();
        long z = 99;
        for (int i = 0; i < 140; i++) {
            z = (z * 1103515245 + 12345) % (1L << 31);
        }
        due("15: sample 139", x.sample(139), z / 65536 % 1001 - 500);
        due("15: sample 140", x.sample(140), LOW);
    }

    private static void least() {
        NoiseBench x = broughtBack();
        due("16: -1", x.least(-1), -2);
        due("16: 1000001", x.least(1000001), -2);
        due("16: it was 1", x.least(1000000), 1);
        dueStill("16: found stays", x);
        due("16: bring goes on", x.bring(1, 0, 0, 0), 0);
        due("16: it was the most", x.least(0), 1000000);
        due("16: it was 0", x.least(80), 0);
        due("16: as much is enough", x.find(), 0);
        x.least(81);
        due("16: below", x.find(), -1);
    }

    private static void find() {
        NoiseBench x = new NoiseBench();
        due("17: not", x.find(), -3);
        x.bits(0b10110101, 8);
        x.air(30, 0, 1);
        x.hear();
        due("17: behind the delay", x.find(), 30);
        due("17: told", x.count(3), 30);
        x.call(1, 1);
        x.taps(0, 0, 0, 0);
        x.least(0);
        x.hear();
        due("17: of several the least", x.find(), 0);
        x.least(1);
        due("17: below the least", x.find(), -1);
        dueState("17: none", x, 61, -1, 0);
        x.least(0);
        x.call(0, 0);
        x.hear();
        due("17: no sign", x.find(), -1);
        findAtTheLastPlace();
        NoiseBench y = broughtBack();
        due("17: again", y.find(), 0);
        dueStill("17: brought stays", y);
        y.least(81);
        due("17: none now", y.find(), -1);
        dueState("17: nothing is found or brought back", y, 38, -1, 0);
        due("17: errors", y.errors(), -3);
        due("17: bring", y.bring(1, 0, 0, 0), -3);
    }

    /** One SIGN, each CODE BIT twice: samples 7 and 8 are of BIT 3, samples 9 and 10 of BIT 4. */
    private static void findAtTheLastPlace() {
        NoiseBench x = new NoiseBench();
        x.call(1, 1);
        x.code(1, 1);
        x.bits(0b00010, 5);
        x.lose(0, 8);
        x.hear();
        due("17: the last place", x.find(), 8);
        x.clear();
        x.bits(0b00001, 5);
        x.hear();
        due("17: one place too far", x.find(), -1);
        due("17: it is there", x.sample(9), 10);
        x.air(1, 0, 1);
        x.lose(0, 9);
        x.clear();
        x.bits(0b00010, 5);
        x.hear();
        due("17: the last place, with a delay", x.find(), 9);
    }

    private static void likeness() {
        NoiseBench x = new NoiseBench();
        due("18: not", x.likeness(0), LOW);
        x.air(2, 0, 1);
        x.hear();
        due("18: -1", x.likeness(-1), LOW);
        due("18: 11", x.likeness(11), LOW);
        due("18: least", x.likeness(LOW), LOW);
        due("18: greatest", x.likeness(HIGH), LOW);
        // 1 1 -1 1 -1 1 -1 -1 on 0 0 1 1 -1 1 -1 1
        due("18: at 0", x.likeness(0), -10 + 10 + 10 + 10 + 10 - 10);
        due("18: at 2", x.likeness(2), 80);
        // the code's six voices are -10: the first six signs are 2 together
        due("18: at 10", x.likeness(10), -20);
        x.call(0, 0);
        x.hear();
        due("18: no sign", x.likeness(10), 0);
        due("18: no sign, bad", x.likeness(11), LOW);
    }

    private static void bring() {
        NoiseBench x = new NoiseBench();
        x.bits(0b10110101, 8);
        due("19: nothing found", x.bring(1, 0, 0, 0), -3);
        due("19: bad ahead of not", x.bring(21, 0, 0, 0), -2);
        x.hear();
        due("19: heard, not found", x.bring(1, 0, 0, 0), -3);
        x.find();
        due("19: b", x.bring(0, 21, 0, 0), -2);
        due("19: c", x.bring(0, 0, -21, 0), -2);
        due("19: d", x.bring(0, 0, 0, 21), -2);
        due("19: none so far", x.count(4), 0);
        due("19: cost 0", x.bring(1, 0, 0, 0), 0);
        due("19: bad changes nothing", x.bring(LOW, 0, 0, 0), -2);
        dueStill("19", x);
        // with no taps each row is as near: 22 voices of 10
        due("19: all alike", x.bring(0, 0, 0, 0), 2200);
        for (int i = 0; i < 8; i++) {
            due("19: the first row " + i, x.brought(1, i), 0);
        }
        due("19: twice as strong", x.bring(2, 0, 0, 0), 2200);
        due("19: the same row", x.errors(), 0);
        NoiseBench y = new NoiseBench();
        y.hear();
        y.find();
        due("19: no bits", y.bring(1, 0, 0, 0), -3);
        due("19: no bits, bad", y.bring(1, 0, 0, -21), -2);
        bringBehindTheCall();
        bringFromSilence();
    }

    /** The call's own samples cost nothing, but its voices reach into the first ones behind it. */
    private static void bringBehindTheCall() {
        NoiseBench x = new NoiseBench();
        x.bits(1, 1);
        x.call(2, 3);
        x.lose(0, 1);
        x.hear();
        due("19: found at 1", x.find(), 1);
        // one place too late: behind the call 1 -1 1 1 1 1 1 and silence are heard, row 1 would be 1 1 -1 1 1 1 1 1
        due("19: a place too late", x.bring(1, 0, 0, 0), 2 * 400 + 100);
        due("19: the nearer row", x.errors(), 0);
        NoiseBench y = new NoiseBench();
        y.bits(0, 1);
        y.call(4, 15);
        y.hear();
        due("19: found at 0", y.find(), 0);
        // heard are less AMP alone; due are the call's last three voices, then less AMP
        due("19: the call's reach", y.bring(0, 0, 0, 1), 3 * 400);
        due("19: the row", y.brought(0, 0), 0);
    }

    private static void bringFromSilence() {
        NoiseBench x = new NoiseBench();
        x.bits(0, 40);
        x.amp(100);
        x.call(16, 0);
        x.least(0);
        x.taps(0, 0, 0, 0);
        x.hear();
        x.find();
        due("19: silence", x.bring(20, 0, 0, 0), 86L * 2000 * 2000);
        due("19: silence, the first row", x.errors(), 0);
    }

    private static void brought() {
        NoiseBench x = new NoiseBench();
        x.mask(1);
        x.bits(0b10110101, 8);
        due("20: not", x.brought(0, 0), -3);
        due("20: way -1", x.brought(-1, 0), -2);
        due("20: way 2", x.brought(2, 0), -2);
        due("20: i -1", x.brought(0, -1), -2);
        due("20: i 8", x.brought(1, 8), -2);
        hearAndBring(x);
        int[] plain = {1, 0, 1, 1, 0, 1, 0, 1};
        int[] made = {1, 1, 0, 1, 1, 0, 0, 1};
        for (int i = 0; i < 8; i++) {
            due("20: behind " + i, x.brought(0, i), plain[i]);
            due("20: ahead " + i, x.brought(1, i), made[i]);
        }
        due("20: way 2 brought", x.brought(2, 0), -2);
        due("20: i 8 brought", x.brought(0, 8), -2);
        due("20: least", x.brought(LOW, LOW), -2);
        // ties go by the scrambled row: all 0, which is no other row behind being unscrambled
        x.mask(127);
        x.bits(0, 1);
        due("20: ended", x.brought(0, 0), -3);
        x.hear();
        x.find();
        x.bring(0, 0, 0, 0);
        for (int i = 0; i < 9; i++) {
            due("20: tie ahead " + i, x.brought(1, i), 0);
            due("20: tie behind " + i, x.brought(0, i), 0);
        }
    }

    private static void errors() {
        NoiseBench x = new NoiseBench();
        due("21: not", x.errors(), -3);
        x.bits(0b10110101, 8);
        x.hear();
        x.find();
        due("21: found alone", x.errors(), -3);
        x.bring(1, 0, 0, 0);
        due("21: none", x.errors(), 0);
        x.bring(0, 0, 0, 0);
        due("21: the 1s", x.errors(), 5);
        x.mask(1);
        x.code(1, 1);
        x.hear();
        x.find();
        x.bring(-1, 0, 0, 0);
        // scrambled 11011001 comes as 00100110; unscrambled with mask 1: 00110101
        due("21: unscrambled", x.errors(), 1);
    }

    private static void sweep() {
        NoiseBench x = broughtBack();
        due("22: 0", x.sweep(0), -2);
        due("22: 21", x.sweep(21), -2);
        due("22: least", x.sweep(LOW), -2);
        due("22: no noise", x.sweep(20), 0);
        dueStill("22: nothing else changes", x);
        x.least(1000000);
        due("22: none found: all bits", x.sweep(20), 160);
        x.call(0, 0);
        x.least(0);
        due("22: no call: all bits", x.sweep(3), 24);
        sweepIsItsParts(HIGH - 2, 6);
        sweepIsItsParts(77, 20);
        sweepIsItsParts(-3, 1);
    }

    private static NoiseBench noisy(int seed) {
        NoiseBench x = new NoiseBench();
        x.mask(72);
        x.bits(0b1011010111001, 13);
        x.taps(4, 2, 0, -1);
        x.air(3, 80, seed);
        return x;
    }

    private static int errorsOf(int seed) {
        NoiseBench x = noisy(seed);
        x.hear();
        if (x.find() < 0) {
            return 13;
        }
        x.bring(4, 2, 0, -1);
        return x.errors();
    }

    private static void sweepIsItsParts(int seed, int k) {
        int together = 0;
        int first = -1;
        for (int j = 0; j < k; j++) {
            int errors = errorsOf(seed + j);
            together += errors;
            if (errors == 0 && first < 0) {
                first = j + 1;
            }
        }
        NoiseBench x = noisy(seed);
        due("22: sweep from " + seed, x.sweep(k), together);
        due("23: whole from " + seed, x.whole(k), first);
        dueEnded("22: nothing is heard by it", x);
        x.hear();
        int heard = x.sample(5);
        x.air(3, 80, seed);
        x.hear();
        due("22: the seed is still " + seed, x.sample(5), heard);
    }

    private static void whole() {
        NoiseBench x = broughtBack();
        due("23: 0", x.whole(0), -2);
        due("23: 21", x.whole(21), -2);
        due("23: greatest", x.whole(HIGH), -2);
        due("23: the first", x.whole(1), 1);
        dueStill("23: nothing else changes", x);
        x.least(1000000);
        due("23: none of them", x.whole(20), -1);
        wholeAtTheSecond();
        x.clear();
        due("23: no bits, no errors", x.whole(2), 1);
        due("23: no bits, no errors together", x.sweep(2), 0);
    }

    /** As the shared tests tell it: with these numbers the second sending comes whole, and the first does not. */
    private static void wholeAtTheSecond() {
        NoiseBench x = new NoiseBench();
        x.bits(699050, 20);
        x.taps(4, 2, 0, 0);
        x.air(3, 90, 77);
        due("23: within 1", x.whole(1), -1);
        due("23: within 2", x.whole(2), 2);
        due("23: within 20", x.whole(20), 2);
        x.air(3, 90, 78);
        due("23: the seed after", x.whole(1), 1);
    }

    private static void count() {
        NoiseBench x = broughtBack();
        due("24: -1", x.count(-1), -2);
        due("24: 5", x.count(5), -2);
        due("24: least", x.count(LOW), -2);
        due("24: greatest", x.count(HIGH), -2);
        due("24: bits", x.count(0), 8);
        due("24: voices", x.count(1), 30);
        due("24: samples", x.count(2), 38);
        due("24: place", x.count(3), 0);
        due("24: brought", x.count(4), 1);
        x.mask(0);
        dueState("24: ended", x, -1, -1, 0);
    }
}
