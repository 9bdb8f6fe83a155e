import java.util.function.ToIntFunction;

/**
 * Each sentence of the document that names a boundary case, with a test of its own and answers worked out by hand;
 * noisy sweeps are held against what the shared tests tell, and against the object's own sweeps of one seed each.
 * (That a refused call changes nothing, in whatever state, is BoundsTest's.)
 */
public final class EdgesTest {
    private static final int LOW = Integer.MIN_VALUE;
    private static final int HIGH = Integer.MAX_VALUE;
    private static final int NONE = -1;
    private static final int BAD = -2;
    private static final int NOT = -3;
    private static final int FULL = -4;
    private static final int MOST_SEEDS_TRIED = 20000;
    private static final Check check = new Check();
    private static String sentence = "";

    public static void main(String[] args) {
        message();
        channel();
        found();
        broughtBack();
        sendings();
        refused();
        promises();
        check.end();
    }

    private static void of(String words, Runnable test) {
        sentence = words;
        test.run();
    }

    private static void due(String what, long got, long want) {
        check.due("\"" + sentence + "\": " + what, got, want);
    }

    private static void message() {
        of("THE MESSAGE has 40 BITS at most", EdgesTest::fortyBits);
        of("No BITS; all else as told", EdgesTest::emptyMessage);
        of("The n lowest bits of w (1 .. 40), the highest first", EdgesTest::lowestBits);
        of("a MASK (0 .. 127; 0 at first)", EdgesTest::maskBounds);
        of("if an odd number of bits of R are at bits of MASK", EdgesTest::oddNumber);
        of("R is (2 R + c) modulo 128", EdgesTest::rWraps);
        of("UNSCRAMBLED is what SCRAMBLED makes this of", EdgesTest::unscrambled);
        of("G and H (1 .. 15 each; 13 and 15 at first)", EdgesTest::codeBounds);
        of("behind the SCRAMBLED BITS come three 0s", EdgesTest::threeZeros);
        of("M is (2 M + b) modulo 16", EdgesTest::mWraps);
        of("AMP (1 .. 100; 10 at first)", EdgesTest::ampBounds);
        of("THE CALL has 16 SIGNS at most", EdgesTest::sixteenSigns);
        of("BAD: also bits above those n", EdgesTest::bitsAboveSigns);
        of("told by bits (1 is AMP, 0 less AMP), the highest first; without one: none", EdgesTest::callOrder);
    }

    private static void channel() {
        of("TAPS 0 .. 3 (-20 .. 20; 1, 0, 0, 0 at first)", EdgesTest::tapBounds);
        of("a DELAY (0 .. 30; 0)", EdgesTest::delayBounds);
        of("NOISE (0 .. 500; 0)", EdgesTest::noiseBounds);
        of("a SEED (an int; 1)", EdgesTest::seedBounds);
        of("a LOST stretch (from a, n long, 0 .. 200 each; none)", EdgesTest::lostBounds);
        of("it is 0, if i is in the LOST stretch", EdgesTest::lostEdges);
        of("DELAY, then as many as THE FRAME has, and 3, and 5 SAMPLES", EdgesTest::sampleCounts);
        of("0, where there is no such VOICE", EdgesTest::noSuchVoice);
        of("4000 at most, and -4000 at least", EdgesTest::fourThousand);
    }

    private static void found() {
        of("p 0 .. DELAY and 8", EdgesTest::lastPlace);
        of("of several the least", EdgesTest::leastPlace);
        of("none, if it is below THE LEAST", EdgesTest::belowTheLeast);
        of("THE LEAST (0 .. 1000000; 1 at first)", EdgesTest::leastBounds);
        of("or THE CALL has no SIGN", EdgesTest::noSign);
        of("NONE (then nothing is FOUND, or BROUGHT BACK)", EdgesTest::noneEnds);
        of("What is FOUND stays", EdgesTest::foundStays);
    }

    private static void broughtBack() {
        of("GUESSED TAPS (four, as TAPS)", EdgesTest::guessBounds);
        of("through GUESSED TAPS alone", EdgesTest::guessIsNotCut);
        of("not THE CALL's own SAMPLES", EdgesTest::callCostsNothing);
        of("nor those behind THE FRAME", EdgesTest::behindCostsNothing);
        of("of several the first row", EdgesTest::firstRow);
        of("It is UNSCRAMBLED then", EdgesTest::tieAheadOfUnscrambling);
        of("ERRORS: BITS that are not those of THE MESSAGE", EdgesTest::errorCounts);
    }

    private static void sendings() {
        of("A SWEEP of k (1 .. 20)", EdgesTest::sweepBounds);
        of("as an int: behind the greatest the least", EdgesTest::seedsWrap);
        of("of one not FOUND all BITS", EdgesTest::notFoundAllBits);
        of("SENT WHOLE within k (1 .. 20)", EdgesTest::wholeBounds);
        of("which one; NONE: none of them", EdgesTest::whichOne);
        of("nothing else changes", EdgesTest::nothingElse);
    }

    private static void refused() {
        of("the first that fits: BAD, NOT", EdgesTest::badAheadOfNot);
        of("the first that fits: BAD, FULL", EdgesTest::badAheadOfFull);
        of("also to what it was", EdgesTest::alsoToWhatItWas);
        of("nothing was HEARD since something of 1 or 2 was changed", EdgesTest::nothingWasHeard);
    }

    private static void promises() {
        of("THE MESSAGE is empty: how many BITS it had", EdgesTest::clears);
        of("BIT i of THE MESSAGE. BAD", EdgesTest::bitPlaces);
        of("BIT i of THE MESSAGE, SCRAMBLED. BAD", EdgesTest::scrambledPlaces);
        of("VOICE i of THE FRAME. The least int: BAD", EdgesTest::voicePlaces);
        of("SAMPLE i. The least int: BAD; NOT", EdgesTest::samplePlaces);
        of("LIKENESS at place p. The least int: BAD; NOT", EdgesTest::likenessPlaces);
        of("-3 NOT: nothing is FOUND, or there are no BITS", EdgesTest::bringNot);
        of("way 1: ahead of being UNSCRAMBLED; 0: behind", EdgesTest::ways);
        of("NOT: nothing was BROUGHT BACK", EdgesTest::errorsNot);
        of("NONE: none are told", EdgesTest::counts);
        of("at most 512 calls", EdgesTest::lastCalls);
    }

    // ---- the message

    private static NoiseBench with(long w, int n) {
        NoiseBench x = new NoiseBench();
        x.bits(w, n);
        return x;
    }

    private static void dueBits(String what, NoiseBench x, String want) {
        due(what + ": how many", x.count(0), want.length());
        for (int i = 0; i < want.length(); i++) {
            due(what + ": bit " + i, x.bit(i), want.charAt(i) - '0');
        }
    }

    private static void dueScrambled(String what, NoiseBench x, String want) {
        for (int i = 0; i < want.length(); i++) {
            due(what + ": scrambled " + i, x.scrambled(i), want.charAt(i) - '0');
        }
    }

    /** Behind THE CALL: + is AMP, - is less AMP. */
    private static void dueCodeVoices(String what, NoiseBench x, int amp, String want) {
        int call = x.count(1) - want.length();
        for (int i = 0; i < want.length(); i++) {
            due(what + ": code voice " + i, x.voice(call + i), want.charAt(i) == '+' ? amp : -amp);
        }
        due(what + ": none behind", x.voice(x.count(1)), LOW);
    }

    private static void fortyBits() {
        NoiseBench one = new NoiseBench();
        for (int i = 1; i <= 40; i++) {
            due("one by one", one.bits(i % 2, 1), i);
        }
        due("the 41st", one.bits(1, 1), FULL);
        due("40 more", one.bits(1, 40), FULL);
        dueBits("as it was", one, "10".repeat(20));
        due("hear", one.hear(), 102);
        due("find", one.find(), 0);
        due("bring", one.bring(1, 0, 0, 0), 0);
        due("errors", one.errors(), 0);
        due("the last", one.brought(0, 38) + 10 * one.brought(0, 39), 1);
        due("forty at once", new NoiseBench().bits(-1, 40), 40);
        NoiseBench nearly = with(0, 39);
        due("39 and 2", nearly.bits(3, 2), FULL);
        due("39 and 1", nearly.bits(1, 1), 40);
        due("1 and 40", with(1, 1).bits(0, 40), FULL);
        due("1 and 39", with(1, 1).bits(0, 39), 40);
    }

    private static void emptyMessage() {
        NoiseBench x = new NoiseBench();
        due("bits", x.count(0), 0);
        due("bit 0", x.bit(0), BAD);
        due("scrambled 0", x.scrambled(0), BAD);
        due("voices: the call and three 0s", x.count(1), 14);
        dueCodeVoices("three 0s", x, 10, "------");
        due("hear", x.hear(), 22);
        due("find", x.find(), 0);
        due("bring", x.bring(1, 0, 0, 0), NOT);
        due("brought, bad ahead of not", x.brought(0, 0), BAD);
        due("errors", x.errors(), NOT);
        due("sweep", x.sweep(20), 0);
        due("whole", x.whole(20), 1);
    }

    private static void lowestBits() {
        dueBits("one of many", with(-2L, 1), "0");
        dueBits("one of many", with(Long.MAX_VALUE, 1), "1");
        dueBits("bit 39", with(1L << 39, 40), "1" + "0".repeat(39));
        dueBits("bit 0", with(1, 40), "0".repeat(39) + "1");
        dueBits("bit 40 is none of them", with(1L << 40, 40), "0".repeat(40));
        dueBits("the sign is none of them", with(Long.MIN_VALUE, 40), "0".repeat(40));
        dueBits("less than 0", with(-1, 40), "1".repeat(40));
        dueBits("all but the highest", with(~(1L << 39), 40), "0" + "1".repeat(39));
        NoiseBench x = with(6, 3);
        due("behind", x.bits(-7L, 3), 6);
        dueBits("behind", x, "110001");
        due("n 0", x.bits(1, 0), BAD);
        due("n 41", x.bits(1, 41), BAD);
        due("n -1", x.bits(1, -1), BAD);
        dueBits("as it was", x, "110001");
    }

    private static void maskBounds() {
        NoiseBench x = with(0b1100, 4);
        dueScrambled("0 at first", x, "1100");
        due("-1", x.mask(-1), BAD);
        due("128", x.mask(128), BAD);
        dueScrambled("still 0", x, "1100");
        due("127", x.mask(127), 1);
        // 1; 1 changed by 1; 0 changed by 10 (an odd number); 0 by 101 (even)
        dueScrambled("127", x, "1010");
        due("128 again", x.mask(128), BAD);
        dueScrambled("still 127", x, "1010");
        due("0", x.mask(0), 1);
        dueScrambled("0", x, "1100");
        due("1", x.mask(1), 1);
        dueScrambled("1", x, "1000");
    }

    private static void oddNumber() {
        NoiseBench x = with(0b1111, 4);
        x.mask(3);
        // none: 1; one of 1: 0; one of 10: 0; none of 00: 1
        dueScrambled("none, one, one, none", x, "1001");
        x.clear();
        x.bits(0b10000, 5);
        // none; one of 1: 1; two of 11: 0; one of 10: 1; one of 01: 1
        dueScrambled("two are not odd", x, "11011");
    }

    private static void rWraps() {
        NoiseBench x = with(1L << 39, 40);
        x.mask(64);
        // R's highest bit is the one seven ahead; the eighth is gone
        for (int i = 0; i < 40; i++) {
            due("mask 64, " + i, x.scrambled(i), i % 7 == 0 ? 1 : 0);
        }
        x.mask(127);
        // a 1 that leaves R makes the number odd again: each eighth and the one behind it
        for (int i = 0; i < 40; i++) {
            due("mask 127, " + i, x.scrambled(i), i % 8 <= 1 ? 1 : 0);
        }
    }

    private static void unscrambled() {
        for (int m = 0; m < 128; m++) {
            NoiseBench x = with(0xa5f00c3d71L, 40);
            x.mask(m);
            x.hear();
            x.find();
            due("mask " + m + ", cost", x.bring(1, 0, 0, 0), 0);
            due("mask " + m + ", errors", x.errors(), 0);
            due("mask " + m + ", cost again", x.bring(1, 0, 0, 0), 0);
            due("mask " + m + ", errors again", x.errors(), 0);
            for (int i = 0; i < 40; i++) {
                due("mask " + m + ", behind " + i, x.brought(0, i), x.bit(i));
                due("mask " + m + ", ahead " + i, x.brought(1, i), x.scrambled(i));
            }
        }
    }

    private static void codeBounds() {
        NoiseBench x = with(1, 1);
        // M 1, 2, 4, 8: 13 sees all but the 2, 15 sees all
        dueCodeVoices("13 and 15 at first", x, 10, "++-+++++");
        due("g 0", x.code(0, 7), BAD);
        due("g 16", x.code(16, 7), BAD);
        due("h 0", x.code(7, 0), BAD);
        due("h 16", x.code(7, 16), BAD);
        due("-1", x.code(-1, -1), BAD);
        dueCodeVoices("still", x, 10, "++-+++++");
        due("1 and 15", x.code(1, 15), 1);
        dueCodeVoices("1 and 15", x, 10, "++-+-+-+");
        due("15 and 1", x.code(15, 1), 1);
        dueCodeVoices("15 and 1", x, 10, "+++-+-+-");
    }

    private static void threeZeros() {
        NoiseBench x = with(0b111, 3);
        x.code(1, 8);
        // G is the bit itself, H the one three ahead
        dueCodeVoices("of three 1s", x, 10, "+-+-+--+-+-+");
        due("voices", x.count(1), 8 + 12);
        x.mask(1);
        // 111 becomes 101; the 0s are not scrambled
        dueCodeVoices("not scrambled", x, 10, "+---+--+---+");
    }

    private static void mWraps() {
        NoiseBench x = with(0b10000, 5);
        x.code(15, 15);
        // M: 1, 2, 4, 8, then 0
        dueCodeVoices("the fifth is 0", x, 10, "++++++++--------");
        NoiseBench y = with(0b11111, 5);
        y.code(15, 8);
        // M: 1, 3, 7, 15, 15, 14, 12, 8
        dueCodeVoices("15 at most", y, 10, "+---+--+-+++-+++");
    }

    private static void ampBounds() {
        NoiseBench x = with(1, 1);
        due("10 at first", x.voice(0), 10);
        due("0", x.amp(0), BAD);
        due("101", x.amp(101), BAD);
        due("-1", x.amp(-1), BAD);
        due("-100", x.amp(-100), BAD);
        due("still", x.voice(0), 10);
        due("1", x.amp(1), 1);
        due("1, +", x.voice(0), 1);
        due("1, -", x.voice(2), -1);
        dueCodeVoices("1", x, 1, "++-+++++");
        due("100", x.amp(100), 1);
        due("100, +", x.voice(0), 100);
        due("100, -", x.voice(2), -100);
        dueCodeVoices("100", x, 100, "++-+++++");
    }

    private static void sixteenSigns() {
        NoiseBench x = new NoiseBench();
        due("17", x.call(17, 0), BAD);
        due("-1", x.call(-1, 0), BAD);
        due("still 8", x.count(1), 8 + 6);
        due("16", x.call(16, 0x8001), 1);
        due("voices", x.count(1), 16 + 6);
        for (int i = 0; i < 16; i++) {
            due("sign " + i, x.voice(i), i == 0 || i == 15 ? 10 : -10);
        }
        due("hear", x.hear(), 30);
        due("16 signs alike", x.likeness(0), 160);
        due("1", x.call(1, 1), 1);
        due("1, voices", x.count(1), 1 + 6);
        due("0", x.call(0, 0), 1);
        due("0, voices", x.count(1), 6);
    }

    private static void bitsAboveSigns() {
        for (int n = 0; n <= 16; n++) {
            NoiseBench x = new NoiseBench();
            due(n + ", one above", x.call(n, 1 << n), BAD);
            due(n + ", all above", x.call(n, -1 << n), BAD);
            due(n + ", the sign", x.call(n, LOW), BAD);
            due(n + ", as it was", x.count(1), 14);
            due(n + ", all of them", x.call(n, (1 << n) - 1), 1);
            due(n + ", voices", x.count(1), n + 6);
            for (int i = 0; i < n; i++) {
                due(n + ", sign " + i, x.voice(i), 10);
            }
            due(n + ", then code", x.voice(n), -10);
        }
    }

    private static void callOrder() {
        NoiseBench x = new NoiseBench();
        String first = "++-+-+--";
        for (int i = 0; i < 8; i++) {
            due("212 at first, " + i, x.voice(i), first.charAt(i) == '+' ? 10 : -10);
        }
        x.call(3, 1);
        due("0", x.voice(0), -10);
        due("0", x.voice(1), -10);
        due("1", x.voice(2), 10);
        x.bits(1, 1);
        x.call(0, 0);
        due("none: code at once", x.voice(0), 10);
        due("none: samples", x.hear(), 16);
    }

    // ---- the channel

    /** One SIGN, and then less AMP alone; TAP k is told by SAMPLE k. */
    private static void tapBounds() {
        NoiseBench x = new NoiseBench();
        x.hear();
        due("at first", x.sample(0), 10);
        due("at first, no tap 1", x.sample(2), -10);
        int[] edges = {-20, 20};
        int[] beyond = {-21, 21};
        for (int k = 0; k < 4; k++) {
            for (int e = 0; e < 2; e++) {
                NoiseBench y = new NoiseBench();
                y.call(1, 1);
                y.amp(100);
                due("tap " + k + " of " + beyond[e], tap(y, k, beyond[e]), BAD);
                due("tap " + k + " of " + edges[e], tap(y, k, edges[e]), 1);
                due("tap " + k + " of " + beyond[e] + " again", tap(y, k, beyond[e]), BAD);
                y.hear();
                due("tap " + k + " of " + edges[e] + ", sample", y.sample(k), 100 * edges[e]);
                due("tap " + k + " of " + edges[e] + ", then", y.sample(k + 1), -100 * edges[e]);
                for (int i = 0; i < k; i++) {
                    due("tap " + k + ", ahead", y.sample(i), 0);
                }
            }
        }
    }

    private static int tap(NoiseBench x, int k, int t) {
        return x.taps(k == 0 ? t : 0, k == 1 ? t : 0, k == 2 ? t : 0, k == 3 ? t : 0);
    }

    private static void delayBounds() {
        NoiseBench x = new NoiseBench();
        x.hear();
        due("0 at first", x.sample(0), 10);
        due("-1", x.air(-1, 0, 1), BAD);
        due("31", x.air(31, 0, 1), BAD);
        due("still", x.count(2), 22);
        due("30", x.air(30, 0, 1), 1);
        due("30, samples", x.hear(), 52);
        for (int i = 0; i < 30; i++) {
            due("30, ahead " + i, x.sample(i), 0);
        }
        due("30, the first", x.sample(30), 10);
        due("30, found", x.find(), 30);
        due("0", x.air(0, 0, 1), 1);
        due("0, samples", x.hear(), 22);
        due("0, found", x.find(), 0);
    }

    /** z / 65536 (cut) behind the first DRAW with this SEED. */
    private static int firstDraw(int seed) {
        long z = seed * 1103515245L + 12345L;
        return (int) ((z % 2147483648L + 2147483648L) % 2147483648L / 65536);
    }

    private static int seedThatDraws(int wanted) {
        for (int seed = 0; seed < MOST_SEEDS_TRIED; seed++) {
            if (firstDraw(seed) % 1001 == wanted) {
                return seed;
            }
        }
        check.isTrue("a seed draws " + wanted, false);
        return 0;
    }

    /** The first SAMPLE, which is a DRAW alone. */
    private static int drawn(int noise, int seed) {
        NoiseBench x = new NoiseBench();
        x.air(1, noise, seed);
        x.hear();
        return x.sample(0);
    }

    private static void noiseBounds() {
        NoiseBench x = new NoiseBench();
        x.hear();
        due("0 at first", x.sample(0), 10);
        due("-1", x.air(0, -1, 1), BAD);
        due("501", x.air(0, 501, 1), BAD);
        due("-500", x.air(0, -500, 1), BAD);
        due("0", x.air(0, 0, 1), 1);
        due("500", x.air(0, 500, 1), 1);
        due("-500 is drawn", drawn(500, seedThatDraws(0)), -500);
        due("500 is drawn", drawn(500, seedThatDraws(1000)), 500);
        // SEED 1 draws 16838: 16838 % 3 is 2, 16838 % 5 is 3
        due("noise 0", drawn(0, 1), 0);
        due("noise 1", drawn(1, 1), 1);
        due("noise 2", drawn(2, 1), 1);
    }

    private static void seedBounds() {
        // 2^31 SEEDS apart is the same z: 0 and the least give 12345, which is less than 65536
        due("0", drawn(500, 0), -500);
        due("the least", drawn(500, LOW), -500);
        // -1 and the greatest: 12345 - 1103515245 + 2^31 = 1043980748, and 15929 is 914 modulo 1001
        due("-1", drawn(500, -1), 414);
        due("the greatest", drawn(500, HIGH), 414);
        // 1: 1103527590, and 16838 is 822 modulo 1001
        due("1", drawn(500, 1), 322);
        NoiseBench x = new NoiseBench();
        due("the least is allowed", x.air(0, 0, LOW), 1);
        due("the greatest is allowed", x.air(0, 0, HIGH), 1);
    }

    private static void lostBounds() {
        NoiseBench x = new NoiseBench();
        x.hear();
        for (int i = 0; i < 14; i++) {
            due("none at first, " + i, x.sample(i), x.voice(i));
        }
        due("a -1", x.lose(-1, 1), BAD);
        due("a 201", x.lose(201, 1), BAD);
        due("n -1", x.lose(1, -1), BAD);
        due("n 201", x.lose(1, 201), BAD);
        due("still heard", x.count(2), 22);
        due("0 and 0", x.lose(0, 0), 1);
        x.hear();
        due("0 and 0, sample", x.sample(0), 10);
        due("200 and 200", x.lose(200, 200), 1);
        x.hear();
        due("200 and 200, sample", x.sample(13), -10);
        due("0 and 200", x.lose(0, 200), 1);
        x.hear();
        for (int i = 0; i < 22; i++) {
            due("0 and 200, " + i, x.sample(i), 0);
        }
        due("200 and 0", x.lose(200, 0), 1);
        x.hear();
        due("200 and 0, sample", x.sample(0), 10);
    }

    private static void lostEdges() {
        dueLost(0, 1);
        dueLost(1, 1);
        dueLost(29, 3);
        dueLost(139, 1);
        dueLost(138, 200);
        dueLost(140, 200);
        dueLost(0, 139);
        dueLost(0, 140);
        dueLost(7, 0);
    }

    /** Ninety-six VOICES of 10, then six of -10, 30 late; the draws go on through what is lost. */
    private static void dueLost(int a, int n) {
        NoiseBench x = with(-1, 40);
        x.call(16, 0xffff);
        x.code(1, 1);
        x.air(30, 500, 1);
        x.lose(a, n);
        due("how many", x.hear(), 140);
        long z = 1;
        for (int i = 0; i < 140; i++) {
            z = (z * 1103515245L + 12345L) % 2147483648L;
            long voice = i < 30 || i >= 132 ? 0 : i < 126 ? 10 : -10;
            long whole = voice + z / 65536 % 1001 - 500;
            due(n + " from " + a + ", sample " + i, x.sample(i), i < a || i >= a + n ? whole : 0);
        }
    }

    private static void sampleCounts() {
        NoiseBench x = new NoiseBench();
        due("at first", x.hear(), 0 + 8 + 6 + 8);
        x.call(0, 0);
        due("the fewest", x.hear(), 14);
        due("the fewest, last", x.sample(13), 0);
        due("the fewest, one more", x.sample(14), LOW);
        x.call(16, 0);
        x.bits(-1, 40);
        x.air(30, 0, 1);
        due("the most", x.hear(), 140);
        due("the most, last", x.sample(139), 0);
        due("the most, one more", x.sample(140), LOW);
        due("told", x.count(2), 140);
    }

    private static void noSuchVoice() {
        NoiseBench x = new NoiseBench();
        x.call(1, 1);
        x.taps(1, 2, 4, 8);
        x.air(2, 0, 1);
        x.hear();
        // VOICES: 10, then six of -10
        int[] want = {0, 0, 10, 20 - 10, 40 - 30, 80 - 70, -150, -150, -150, -140, -120, -80, 0, 0, 0, 0, 0};
        for (int i = 0; i < want.length; i++) {
            due("sample " + i, x.sample(i), want[i]);
        }
        due("no more", x.sample(want.length), LOW);
    }

    /** SAMPLE 1 is two VOICES of 100, 20 times each, and the second DRAW of SEED 1, 5758. */
    private static int loud(int signs, int noise) {
        NoiseBench x = new NoiseBench();
        x.call(2, signs);
        x.amp(100);
        x.taps(20, 20, 0, 0);
        x.air(0, noise, 1);
        x.hear();
        return x.sample(1);
    }

    private static void fourThousand() {
        due("4000", loud(3, 0), 4000);
        due("-4000", loud(0, 0), -4000);
        // 5758 % 7 - 3 is 1, 5758 % 21 - 10 is -6, 5758 % 1001 - 500 is 253
        due("4001", loud(3, 3), 4000);
        due("3994", loud(3, 10), 3994);
        due("4253", loud(3, 500), 4000);
        due("-3999", loud(0, 3), -3999);
        due("-4006", loud(0, 10), -4000);
        due("-3747", loud(0, 500), -3747);
        NoiseBench x = new NoiseBench();
        x.call(4, 15);
        x.amp(100);
        x.taps(20, 20, 20, 20);
        x.hear();
        due("8000", x.sample(3), 4000);
        x.taps(-20, -20, -20, -20);
        x.hear();
        due("-8000", x.sample(3), -4000);
        x.lose(3, 1);
        x.hear();
        due("lost, then cut", x.sample(3), 0);
    }

    // ---- found

    /** One SIGN, each BIT two VOICES of its own, and all that is heard ahead of place DELAY and 8 is lost. */
    private static NoiseBench lostAhead(int delay, long message) {
        NoiseBench x = with(message, 5);
        x.call(1, 1);
        x.code(1, 1);
        x.air(delay, 0, 1);
        x.lose(0, delay + 8);
        x.hear();
        return x;
    }

    private static void lastPlace() {
        for (int delay : new int[] {0, 1, 30}) {
            // VOICE 8 is BIT 3's second, VOICE 9 is BIT 4's first
            NoiseBench last = lostAhead(delay, 0b00010);
            due("the last place, delay " + delay, last.find(), delay + 8);
            due("its likeness", last.likeness(delay + 8), 10);
            due("one more", last.likeness(delay + 9), LOW);
            NoiseBench behind = lostAhead(delay, 0b00001);
            due("one too far is there", behind.sample(delay + 9), 10);
            due("one too far", behind.find(), NONE);
            behind.least(0);
            due("the greatest of the others", behind.find(), 0);
        }
    }

    private static void leastPlace() {
        NoiseBench x = with(-1, 6);
        x.call(1, 1);
        x.code(1, 1);
        x.hear();
        due("all alike", x.find(), 0);
        x.air(4, 0, 1);
        x.hear();
        due("all behind the delay", x.find(), 4);
        x.lose(0, 7);
        x.hear();
        due("all behind the lost ones", x.find(), 7);
        x.lose(0, 200);
        x.least(0);
        x.hear();
        due("all silent", x.find(), 0);
    }

    private static void belowTheLeast() {
        NoiseBench x = new NoiseBench();
        x.hear();
        x.least(80);
        due("as much", x.find(), 0);
        x.least(81);
        due("below", x.find(), NONE);
        x.least(79);
        due("more", x.find(), 0);
        NoiseBench one = new NoiseBench();
        one.call(1, 1);
        one.amp(1);
        one.hear();
        due("1, as at first", one.find(), 0);
        one.taps(0, 0, 0, 0);
        one.hear();
        due("0, below 1", one.find(), NONE);
        one.least(0);
        due("0, as much as 0", one.find(), 0);
        // places 0 .. 8 are less than 0 alone
        NoiseBench less = with(-1, 4);
        less.call(1, 1);
        less.code(1, 1);
        less.taps(-1, 0, 0, 0);
        less.least(0);
        less.hear();
        due("below 0", less.find(), NONE);
        due("as it is", less.likeness(8), -10);
    }

    private static void leastBounds() {
        NoiseBench x = new NoiseBench();
        due("-1", x.least(-1), BAD);
        due("1000001", x.least(1000001), BAD);
        due("1 at first", x.least(0), 1);
        due("-1 again", x.least(-1), BAD);
        due("0", x.least(1000000), 0);
        due("1000001 again", x.least(1000001), BAD);
        due("1000000", x.least(1000000), 1000000);
        due("as it was", x.least(64000), 1000000);
        // sixteen SAMPLES of 4000 are the most that there can be
        x.call(16, 0xffff);
        x.amp(100);
        x.code(1, 1);
        x.bits(-1, 8);
        x.taps(20, 20, 20, 20);
        x.hear();
        due("64000", x.find(), 1);
        due("64000, likeness", x.likeness(1), 64000);
        x.least(64001);
        due("64001", x.find(), NONE);
        x.least(1000000);
        due("the most", x.find(), NONE);
    }

    private static void noSign() {
        NoiseBench x = with(5, 3);
        x.call(0, 0);
        x.least(0);
        x.hear();
        due("find", x.find(), NONE);
        due("place", x.count(3), NONE);
        due("likeness of nothing", x.likeness(0), 0);
        due("likeness of nothing, the last", x.likeness(8), 0);
        due("one more", x.likeness(9), LOW);
        due("bring", x.bring(1, 0, 0, 0), NOT);
        due("sweep: all bits", x.sweep(2), 6);
        due("whole", x.whole(20), NONE);
    }

    /** BITS 10110101, HEARD, FOUND and BROUGHT BACK without noise. */
    private static NoiseBench brought() {
        NoiseBench x = with(0b10110101, 8);
        x.hear();
        x.find();
        x.bring(1, 0, 0, 0);
        return x;
    }

    private static void dueState(String what, NoiseBench x, int samples, int place, int brought) {
        due(what + ": samples", x.count(2), samples);
        due(what + ": place", x.count(3), place);
        due(what + ": brought", x.count(4), brought);
    }

    private static void noneEnds() {
        NoiseBench x = brought();
        x.least(81);
        due("find", x.find(), NONE);
        dueState("none", x, 38, NONE, 0);
        due("bring", x.bring(1, 0, 0, 0), NOT);
        due("brought", x.brought(0, 0), NOT);
        due("errors", x.errors(), NOT);
        x.least(80);
        due("found again", x.find(), 0);
        dueState("found again", x, 38, 0, 0);
        due("errors still", x.errors(), NOT);
    }

    private static void foundStays() {
        NoiseBench x = brought();
        due("the most", x.least(1000000), 1);
        dueState("the most", x, 38, 0, 1);
        due("errors", x.errors(), 0);
        due("bring", x.bring(1, 0, 0, 0), 0);
        due("refused", x.least(1000001), BAD);
        dueState("refused", x, 38, 0, 1);
    }

    // ---- brought back

    private static void guessBounds() {
        int[] edges = {-20, 20};
        int[] beyond = {-21, 21};
        for (int k = 0; k < 4; k++) {
            for (int e = 0; e < 2; e++) {
                NoiseBench x = with(1, 1);
                x.amp(100);
                x.lose(0, 200);
                x.least(0);
                x.hear();
                due("silence", x.find(), 0);
                due("guess " + k + " of " + beyond[e], guess(x, k, beyond[e]), BAD);
                due("none so far", x.count(4), 0);
                // eight of 2000 or -2000, whichever row it is
                due("guess " + k + " of " + edges[e], guess(x, k, edges[e]), 8 * 4000000);
                due("brought", x.count(4), 1);
            }
        }
    }

    private static long guess(NoiseBench x, int k, int t) {
        return x.bring(k == 0 ? t : 0, k == 1 ? t : 0, k == 2 ? t : 0, k == 3 ? t : 0);
    }

    private static void guessIsNotCut() {
        NoiseBench x = with(1, 1);
        x.call(4, 15);
        x.code(1, 1);
        x.amp(100);
        x.lose(0, 200);
        x.least(0);
        x.hear();
        due("silence", x.find(), 0);
        // row 0: 4000, 0, -4000 and five of -8000; row 1: 8000, 8000, 4000, 0, -4000 and three of -8000
        due("cost", x.bring(20, 20, 20, 20), 5 * 64000000L + 2 * 16000000L);
        due("the first row", x.brought(1, 0), 0);
    }

    private static void callCostsNothing() {
        NoiseBench x = with(0b10110101, 8);
        x.lose(0, 2);
        x.hear();
        due("two of the call are lost", x.likeness(0), 60);
        due("found", x.find(), 0);
        due("cost", x.bring(1, 0, 0, 0), 0);
        // the first behind THE CALL costs
        x.lose(7, 2);
        x.hear();
        due("found still", x.find(), 0);
        due("one voice is lost", x.bring(1, 0, 0, 0), 100);
        due("errors", x.errors(), 0);
    }

    private static void behindCostsNothing() {
        NoiseBench x = with(0, 1);
        x.call(4, 15);
        x.code(1, 1);
        x.taps(1, 0, 0, 1);
        x.hear();
        due("found", x.find(), 0);
        due("behind the frame is not silent", x.sample(14), -10);
        // each of the eight behind THE CALL is 10 off, with either row
        due("cost", x.bring(1, 0, 0, 0), 800);
        due("the first row", x.brought(1, 0), 0);
        // the last VOICE of THE FRAME costs
        x.taps(1, 0, 0, 0);
        x.lose(11, 1);
        x.hear();
        x.find();
        due("the last voice is lost", x.bring(1, 0, 0, 0), 100);
    }

    private static void firstRow() {
        NoiseBench x = with(0, 2);
        x.call(1, 0);
        x.code(1, 1);
        x.taps(0, 0, 0, 0);
        x.least(0);
        x.hear();
        due("silence", x.find(), 0);
        // each VOICE and the one ahead of it: 400 if they are alike, otherwise 0. All VOICES of row 00 are alike; rows
        // 01 (- -- ++ ------), 10 (- ++ -- ------) and 11 (- ++ ++ ------) have two changes each, and eight alike
        due("cost", x.bring(1, 1, 0, 0), 8 * 400);
        due("first bit", x.brought(1, 0), 0);
        due("second bit", x.brought(1, 1), 1);
        NoiseBench all = with(-1, 40);
        all.hear();
        all.find();
        due("all alike", all.bring(0, 0, 0, 0), 86 * 100);
        for (int i = 0; i < 40; i++) {
            due("all alike, " + i, all.brought(1, i), 0);
        }
        due("all alike, errors", all.errors(), 40);
        lostBit(0b11111, 0, "01111");
        lostBit(0b11111, 2, "11011");
        lostBit(0b11111, 4, "11110");
    }

    /** Both VOICES of one BIT are lost: with 0 and with 1 the COST is the same. */
    private static void lostBit(long message, int i, String want) {
        NoiseBench x = with(message, 5);
        x.code(1, 1);
        x.lose(8 + 2 * i, 2);
        x.hear();
        due("found", x.find(), 0);
        due("bit " + i + " is lost", x.bring(1, 0, 0, 0), 200);
        for (int j = 0; j < 5; j++) {
            due("bit " + i + " is lost, bit " + j, x.brought(1, j), want.charAt(j) - '0');
        }
    }

    private static void tieAheadOfUnscrambling() {
        NoiseBench x = with(0b10, 2);
        x.mask(1);
        x.code(1, 1);
        dueScrambled("10", x, "11");
        x.lose(10, 2);
        x.hear();
        due("found", x.find(), 0);
        due("cost", x.bring(1, 0, 0, 0), 200);
        // rows 10 and 11 are as near; 10 is the first, though it was made of 11 and the other of 10
        due("ahead, first", x.brought(1, 0), 1);
        due("ahead, second", x.brought(1, 1), 0);
        due("behind, first", x.brought(0, 0), 1);
        due("behind, second", x.brought(0, 1), 1);
        due("errors", x.errors(), 1);
    }

    private static void errorCounts() {
        due("none", brought().errors(), 0);
        NoiseBench all = with(-1, 40);
        all.code(1, 1);
        all.hear();
        all.find();
        due("the other way round, cost", all.bring(-1, 0, 0, 0), 6 * 400);
        due("all", all.errors(), 40);
        NoiseBench one = with(0, 1);
        one.hear();
        one.find();
        one.bring(1, 0, 0, 0);
        due("none of one", one.errors(), 0);
        one.bits(1, 1);
        one.hear();
        one.find();
        one.bring(0, 0, 0, 0);
        due("one of two", one.errors(), 1);
    }

    // ---- sendings

    /** As the shared tests tell: SEED 77 does not come whole, SEED 78 does; ten SEEDS have 65 ERRORS together. */
    private static NoiseBench noisy(int seed) {
        return noisy(90, seed);
    }

    private static NoiseBench noisy(int noise, int seed) {
        NoiseBench x = with(699050, 20);
        x.taps(4, 2, 0, 0);
        x.air(3, noise, seed);
        return x;
    }

    private static void sweepBounds() {
        NoiseBench x = noisy(77);
        due("0", x.sweep(0), BAD);
        due("-1", x.sweep(-1), BAD);
        due("21", x.sweep(21), BAD);
        due("1", x.sweep(1), 9);
        due("10", x.sweep(10), 65);
        int together = 0;
        for (int j = 0; j < 20; j++) {
            together += noisy(77 + j).sweep(1);
        }
        due("20", x.sweep(20), together);
        due("19 and the last", x.sweep(19) + noisy(96).sweep(1), together);
    }

    private static void seedsWrap() {
        int[] seeds = {HIGH - 1, HIGH, LOW, LOW + 1, LOW + 2};
        int together = 0;
        for (int k = 0; k < 5; k++) {
            together += noisy(60, seeds[k]).sweep(1);
            due("sweep of " + (k + 1), noisy(60, HIGH - 1).sweep(k + 1), together);
        }
        check.isTrue("the greatest is not whole", noisy(60, HIGH).sweep(1) > 0);
        check.isTrue("the one ahead of it is not whole", noisy(60, HIGH - 1).sweep(1) > 0);
        due("the least is whole", noisy(60, LOW).whole(1), 1);
        due("whole behind the greatest", noisy(60, HIGH).whole(2), 2);
        due("whole, the third", noisy(60, HIGH - 1).whole(20), 3);
        due("one less", noisy(60, HIGH - 1).whole(2), NONE);
    }

    private static void notFoundAllBits() {
        NoiseBench x = with(-1, 40);
        x.least(1000000);
        due("one", x.sweep(1), 40);
        due("twenty", x.sweep(20), 800);
        due("none whole", x.whole(20), NONE);
        x.clear();
        x.bits(0, 1);
        due("one bit", x.sweep(20), 20);
        x.least(80);
        due("one bit, found", x.sweep(20), 0);
        due("one bit, whole", x.whole(20), 1);
        x.least(81);
        due("one bit, not found", x.whole(20), NONE);
        x.clear();
        due("no bits", x.sweep(20), 0);
    }

    private static void wholeBounds() {
        NoiseBench x = noisy(77);
        due("0", x.whole(0), BAD);
        due("-1", x.whole(-1), BAD);
        due("21", x.whole(21), BAD);
        due("1", x.whole(1), NONE);
        due("20", x.whole(20), 2);
        due("20 of no noise", brought().whole(20), 1);
    }

    private static void whichOne() {
        due("the second", noisy(77).whole(2), 2);
        due("not within one", noisy(77).whole(1), NONE);
        due("from 1", noisy(78).whole(1), 1);
        int seed = seedBehindTwenty();
        due("the twentieth", noisy(seed - 19).whole(20), 20);
        due("not within nineteen", noisy(seed - 19).whole(19), NONE);
        due("none of twenty", noisy(seed - 20).whole(20), NONE);
        NoiseBench x = noisy(77);
        x.least(1000000);
        due("none is found", x.whole(20), NONE);
    }

    /** A SEED that comes whole, behind twenty at least that do not. */
    private static int seedBehindTwenty() {
        int since = 0;
        for (int seed = 0; seed < MOST_SEEDS_TRIED; seed++) {
            boolean isWhole = noisy(seed).sweep(1) == 0;
            if (isWhole && since >= 20) {
                return seed;
            }
            since = isWhole ? 0 : since + 1;
        }
        check.isTrue("a seed comes whole behind twenty that do not", false);
        return 0;
    }

    private static void nothingElse() {
        NoiseBench x = brought();
        x.sweep(20);
        dueState("sweep", x, 38, 0, 1);
        x.whole(20);
        dueState("whole", x, 38, 0, 1);
        due("errors", x.errors(), 0);
        NoiseBench fresh = noisy(77);
        fresh.sweep(20);
        fresh.whole(20);
        dueState("nothing is heard", fresh, NONE, NONE, 0);
        due("the seed is as it was", fresh.whole(2), 2);
        fresh.hear();
        fresh.find();
        fresh.sweep(20);
        due("from the place that was found", fresh.bring(4, 2, 0, 0), 107511);
        fresh.sweep(20);
        due("what was brought back", fresh.errors(), 9);
    }

    // ---- refused

    private static void badAheadOfNot() {
        NoiseBench x = with(5, 3);
        due("bring", x.bring(21, 0, 0, 0), BAD);
        due("brought, way", x.brought(2, 0), BAD);
        due("brought, place", x.brought(0, 3), BAD);
        due("bring, allowed", x.bring(20, -20, 20, -20), NOT);
        due("brought, allowed", x.brought(1, 2), NOT);
        x.clear();
        due("brought without bits", x.brought(0, 0), BAD);
    }

    private static void badAheadOfFull() {
        NoiseBench x = with(0, 40);
        due("41", x.bits(0, 41), BAD);
        due("0", x.bits(0, 0), BAD);
        due("-1", x.bits(0, -1), BAD);
        due("1", x.bits(0, 1), FULL);
        due("40", x.bits(0, 40), FULL);
    }

    private static void alsoToWhatItWas() {
        dueEnded("mask", x -> x.mask(0), 1);
        dueEnded("code", x -> x.code(13, 15), 1);
        dueEnded("amp", x -> x.amp(10), 1);
        dueEnded("call", x -> x.call(8, 212), 1);
        dueEnded("taps", x -> x.taps(1, 0, 0, 0), 1);
        dueEnded("air", x -> x.air(0, 0, 1), 1);
        dueEnded("lose", x -> x.lose(0, 0), 1);
        NoiseBench empty = new NoiseBench();
        empty.hear();
        empty.find();
        due("clear of none", empty.clear(), 0);
        dueState("clear of none", empty, NONE, NONE, 0);
    }

    private static void dueEnded(String what, ToIntFunction<NoiseBench> change, int answer) {
        NoiseBench x = brought();
        due(what, change.applyAsInt(x), answer);
        dueState(what, x, NONE, NONE, 0);
        due(what + ": hear again", x.hear(), 38);
        dueState(what + ": heard alone", x, 38, NONE, 0);
        due(what + ": errors", x.errors(), NOT);
        due(what + ": bring", x.bring(1, 0, 0, 0), NOT);
    }

    private static void nothingWasHeard() {
        NoiseBench x = brought();
        due("bits", x.bits(1, 1), 9);
        due("find", x.find(), NOT);
        due("sample", x.sample(0), LOW);
        due("likeness", x.likeness(0), LOW);
        due("bring", x.bring(1, 0, 0, 0), NOT);
        due("brought", x.brought(0, 0), NOT);
        due("errors", x.errors(), NOT);
        due("hear", x.hear(), 40);
        due("found not yet", x.bring(1, 0, 0, 0), NOT);
        due("find", x.find(), 0);
        due("brought not yet", x.errors(), NOT);
        due("bring", x.bring(1, 0, 0, 0), 0);
        due("errors", x.errors(), 0);
    }

    // ---- the promises' own edges

    private static void clears() {
        NoiseBench x = with(-1, 40);
        due("full", x.clear(), 40);
        due("empty", x.count(0), 0);
        due("again", x.clear(), 0);
        due("one", x.bits(0, 1), 1);
        dueBits("nothing of the old", x, "0");
        due("one, cleared", x.clear(), 1);
        x.mask(127);
        x.bits(-1, 9);
        x.clear();
        x.bits(0, 9);
        dueScrambled("R is 0 at first", x, "000000000");
        x.hear();
        x.find();
        due("cost of the new alone", x.bring(1, 0, 0, 0), 0);
        due("errors of the new alone", x.errors(), 0);
        x.amp(7);
        x.clear();
        due("all else stays", x.voice(0), 7);
    }

    private static void bitPlaces() {
        NoiseBench x = with(0b101, 3);
        due("-1", x.bit(-1), BAD);
        due("0", x.bit(0), 1);
        due("2", x.bit(2), 1);
        due("3", x.bit(3), BAD);
        due("the greatest", x.bit(HIGH), BAD);
        due("the least", x.bit(LOW), BAD);
        NoiseBench full = with(1, 40);
        due("39", full.bit(39), 1);
        due("40", full.bit(40), BAD);
        // a long's shift wraps: 64 places behind the last
        due("103", full.bit(103), BAD);
        due("none", new NoiseBench().bit(0), BAD);
    }

    private static void scrambledPlaces() {
        NoiseBench x = with(0b100, 3);
        x.mask(1);
        due("-1", x.scrambled(-1), BAD);
        due("0", x.scrambled(0), 1);
        due("2", x.scrambled(2), 1);
        due("3", x.scrambled(3), BAD);
        due("the greatest", x.scrambled(HIGH), BAD);
        due("the least", x.scrambled(LOW), BAD);
        NoiseBench full = with(1, 40);
        due("39", full.scrambled(39), 1);
        due("40", full.scrambled(40), BAD);
        due("none", new NoiseBench().scrambled(0), BAD);
    }

    private static void voicePlaces() {
        NoiseBench x = new NoiseBench();
        due("-1", x.voice(-1), LOW);
        due("0", x.voice(0), 10);
        due("the call's last", x.voice(7), -10);
        due("13", x.voice(13), -10);
        due("14", x.voice(14), LOW);
        due("the greatest", x.voice(HIGH), LOW);
        due("the least", x.voice(LOW), LOW);
        x.call(16, 1);
        x.bits(1, 40);
        due("the call's last of 16", x.voice(15), 10);
        due("101", x.voice(101), 10);
        due("102", x.voice(102), LOW);
        x.clear();
        x.call(0, 0);
        due("5", x.voice(5), -10);
        due("6", x.voice(6), LOW);
        due("-1 without a call", x.voice(-1), LOW);
    }

    private static void samplePlaces() {
        NoiseBench x = new NoiseBench();
        due("not heard", x.sample(0), LOW);
        x.hear();
        due("-1", x.sample(-1), LOW);
        due("0", x.sample(0), 10);
        due("21", x.sample(21), 0);
        due("22", x.sample(22), LOW);
        due("the greatest", x.sample(HIGH), LOW);
        due("the least", x.sample(LOW), LOW);
        x.lose(0, 0);
        due("heard no more", x.sample(0), LOW);
        // a shorter hearing behind a longer one
        x.bits(-1, 40);
        x.hear();
        x.clear();
        x.hear();
        due("21 again", x.sample(21), 0);
        due("22 again", x.sample(22), LOW);
    }

    private static void likenessPlaces() {
        NoiseBench x = new NoiseBench();
        due("not heard", x.likeness(0), LOW);
        x.hear();
        due("-1", x.likeness(-1), LOW);
        due("0", x.likeness(0), 80);
        // six of -10 on 1 1 -1 1 -1 1, then silence
        due("8", x.likeness(8), -20);
        due("9", x.likeness(9), LOW);
        due("the greatest", x.likeness(HIGH), LOW);
        due("the least", x.likeness(LOW), LOW);
        x.air(30, 0, 1);
        due("heard no more", x.likeness(0), LOW);
        x.hear();
        due("30", x.likeness(30), 80);
        due("38", x.likeness(38), -20);
        due("39", x.likeness(39), LOW);
    }

    private static void bringNot() {
        NoiseBench x = with(1, 1);
        due("not heard", x.bring(1, 0, 0, 0), NOT);
        x.hear();
        due("not found", x.bring(1, 0, 0, 0), NOT);
        x.find();
        due("found", x.bring(1, 0, 0, 0), 0);
        due("again", x.bring(1, 0, 0, 0), 0);
        NoiseBench none = new NoiseBench();
        none.hear();
        due("found without bits", none.find(), 0);
        due("no bits", none.bring(1, 0, 0, 0), NOT);
        due("no bits, brought", none.count(4), 0);
    }

    private static void ways() {
        NoiseBench x = with(0b11, 2);
        x.mask(1);
        due("not yet", x.brought(0, 0), NOT);
        x.hear();
        x.find();
        x.bring(1, 0, 0, 0);
        due("way -1", x.brought(-1, 0), BAD);
        due("way 2", x.brought(2, 0), BAD);
        due("i -1", x.brought(0, -1), BAD);
        due("i 2", x.brought(0, 2), BAD);
        due("i 2, way 1", x.brought(1, 2), BAD);
        due("way 1", x.brought(1, 1), 0);
        due("way 0", x.brought(0, 1), 1);
        due("the least", x.brought(LOW, 0), BAD);
        due("the greatest", x.brought(0, HIGH), BAD);
    }

    private static void errorsNot() {
        NoiseBench x = with(1, 1);
        due("not heard", x.errors(), NOT);
        x.hear();
        due("heard", x.errors(), NOT);
        x.find();
        due("found", x.errors(), NOT);
        x.bring(21, 0, 0, 0);
        due("bring was refused", x.errors(), NOT);
        x.bring(1, 0, 0, 0);
        due("brought back", x.errors(), 0);
        x.sweep(1);
        due("still", x.errors(), 0);
        x.amp(10);
        due("ended", x.errors(), NOT);
    }

    private static void counts() {
        NoiseBench x = new NoiseBench();
        due("-1", x.count(-1), BAD);
        due("5", x.count(5), BAD);
        due("the least", x.count(LOW), BAD);
        due("the greatest", x.count(HIGH), BAD);
        due("bits", x.count(0), 0);
        due("voices", x.count(1), 14);
        dueState("new", x, NONE, NONE, 0);
        x.hear();
        dueState("heard", x, 22, NONE, 0);
        x.find();
        dueState("found", x, 22, 0, 0);
        x.bits(-1, 40);
        due("40 bits", x.count(0), 40);
        due("40 bits, voices", x.count(1), 94);
        dueState("changed", x, NONE, NONE, 0);
        x.call(16, 0);
        due("the most voices", x.count(1), 102);
        x.clear();
        x.call(0, 0);
        due("the fewest voices", x.count(1), 6);
    }

    /** The 512th call is still promised; ahead of it are the dearest ones. */
    private static void lastCalls() {
        NoiseBench x = with(699050, 20);
        x.bits(0x5a5a5, 20);
        x.air(30, 500, 1);
        x.call(16, 44510);
        int first = x.sweep(20);
        for (int i = 5; i < 508; i++) {
            due("sweep, call " + (i + 1), x.sweep(20), first);
        }
        due("call 509", x.hear(), 140);
        due("call 510", x.find() >= NONE ? 1 : 0, 1);
        due("call 511", x.bit(39), 1);
        due("call 512", x.count(2), 140);
    }
}
