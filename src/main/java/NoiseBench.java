/** Voices in noise: a message is sent as voices, heard through a channel, found and brought back. */
public final class NoiseBench {
    public static final int NONE = -1, BAD = -2, NOT = -3, FULL = -4;

    private static final int LEAST_INT = -2147483648;
    private static final int MOST_BITS = 40;
    private static final int MOST_MASK = 127;
    private static final int MOST_CODE = 15;
    private static final int MOST_AMP = 100;
    private static final int MOST_SIGNS = 16;
    private static final int MOST_TAP = 20;
    private static final int MOST_DELAY = 30;
    private static final int MOST_NOISE = 500;
    private static final int MOST_LOST = 200;
    private static final int MOST_LEAST = 1000000;
    private static final int MOST_SENDINGS = 20;
    private static final int MOST_SAMPLE = 4000;
    private static final int TAPS = 4;
    private static final int TAIL = 3;
    /** So many SAMPLES are HEARD behind THE FRAME: three for the taps, and five. */
    private static final int BEHIND = 8;
    private static final int MOST_SAMPLES = MOST_DELAY + MOST_SIGNS + 2 * (MOST_BITS + TAIL) + BEHIND;

    private final Sender sender = new Sender();
    private final Channel channel = new Channel();
    private final Hearing kept = new Hearing();
    /** Sweeps and sendings listen here, so that what was HEARD stays. */
    private final Hearing trial = new Hearing();
    private final Path path = new Path();
    private int leastLikeness = 1;
    private boolean isHeard = false;
    private int place = NONE;
    private boolean isBrought = false;
    private long broughtMixed = 0;
    private long broughtPlain = 0;

    public NoiseBench() {
    }

    // ---- the message and the channel

    public int bits(long w, int n) {
        if (!within(n, 1, MOST_BITS)) {
            return BAD;
        }
        if (sender.size + n > MOST_BITS) {
            return FULL;
        }
        sender.append(w, n);
        endHeard();
        return sender.size;
    }

    public int clear() {
        int had = sender.size;
        sender.empty();
        endHeard();
        return had;
    }

    public int bit(int i) {
        return isBitPlace(i) ? bitOf(sender.message, sender.size, i) : BAD;
    }

    public int mask(int m) {
        if (!within(m, 0, MOST_MASK)) {
            return BAD;
        }
        sender.setMask(m);
        return changed();
    }

    public int code(int g, int h) {
        if (!within(g, 1, MOST_CODE) || !within(h, 1, MOST_CODE)) {
            return BAD;
        }
        sender.codeG = g;
        sender.codeH = h;
        return changed();
    }

    public int amp(int a) {
        if (!within(a, 1, MOST_AMP)) {
            return BAD;
        }
        sender.strength = a;
        return changed();
    }

    public int call(int n, int signs) {
        if (!within(n, 0, MOST_SIGNS) || signs >>> n != 0) {
            return BAD;
        }
        sender.callSize = n;
        sender.callSigns = signs;
        return changed();
    }

    public int taps(int a, int b, int c, int d) {
        if (!areTaps(a, b, c, d)) {
            return BAD;
        }
        setFour(channel.weights, a, b, c, d);
        return changed();
    }

    public int air(int delay, int noise, int seed) {
        if (!within(delay, 0, MOST_DELAY) || !within(noise, 0, MOST_NOISE)) {
            return BAD;
        }
        channel.lag = delay;
        channel.loudness = noise;
        channel.start = seed;
        return changed();
    }

    public int lose(int a, int n) {
        if (!within(a, 0, MOST_LOST) || !within(n, 0, MOST_LOST)) {
            return BAD;
        }
        channel.lostFrom = a;
        channel.lostLength = n;
        return changed();
    }

    // ---- asked of what is sent

    public int scrambled(int i) {
        return isBitPlace(i) ? bitOf(sender.mixed, sender.size, i) : BAD;
    }

    public int voice(int i) {
        return within(i, 0, sender.frameSize() - 1) ? sender.frameVoice(i) : LEAST_INT;
    }

    // ---- heard

    public int hear() {
        kept.listen(sender, channel, channel.start);
        isHeard = true;
        return kept.length;
    }

    public int sample(int i) {
        return isHeard && within(i, 0, kept.length - 1) ? kept.at(i) : LEAST_INT;
    }

    public int least(int v) {
        if (!within(v, 0, MOST_LEAST)) {
            return BAD;
        }
        int was = leastLikeness;
        leastLikeness = v;
        return was;
    }

    public int find() {
        if (!isHeard) {
            return NOT;
        }
        place = kept.locate(sender, channel.lastPlace(), leastLikeness);
        if (place == NONE) {
            isBrought = false;
        }
        return place;
    }

    public int likeness(int p) {
        return isHeard && within(p, 0, channel.lastPlace()) ? kept.alike(sender, p) : LEAST_INT;
    }

    public long bring(int a, int b, int c, int d) {
        if (!areTaps(a, b, c, d)) {
            return BAD;
        }
        if (place == NONE || sender.size == 0) {
            return NOT;
        }
        setFour(path.guess, a, b, c, d);
        path.follow(sender, kept, place);
        broughtMixed = path.bestRow;
        broughtPlain = unmix(path.bestRow, sender.size, sender.maskBits);
        isBrought = true;
        return path.bestCost;
    }

    public int brought(int way, int i) {
        if (!within(way, 0, 1) || !isBitPlace(i)) {
            return BAD;
        }
        if (!isBrought) {
            return NOT;
        }
        return bitOf(way == 1 ? broughtMixed : broughtPlain, sender.size, i);
    }

    public int errors() {
        return isBrought ? differences(broughtPlain, sender.message) : NOT;
    }

    public int sweep(int k) {
        if (!within(k, 1, MOST_SENDINGS)) {
            return BAD;
        }
        int together = 0;
        for (int j = 0; j < k; j++) {
            together += errorsOfSending(channel.start + j);
        }
        return together;
    }

    public int whole(int k) {
        if (!within(k, 1, MOST_SENDINGS)) {
            return BAD;
        }
        for (int j = 0; j < k; j++) {
            if (errorsOfSending(channel.start + j) == 0) {
                return j + 1;
            }
        }
        return NONE;
    }

    public int count(int what) {
        switch (what) {
            case 0:
                return sender.size;
            case 1:
                return sender.frameSize();
            case 2:
                return isHeard ? kept.length : NONE;
            case 3:
                return place;
            case 4:
                return isBrought ? 1 : 0;
            default:
                return BAD;
        }
    }

    // ---- what the calls share

    private int changed() {
        endHeard();
        return 1;
    }

    private void endHeard() {
        isHeard = false;
        place = NONE;
        isBrought = false;
    }

    private boolean isBitPlace(int i) {
        return within(i, 0, sender.size - 1);
    }

    private int errorsOfSending(int seed) {
        trial.listen(sender, channel, seed);
        int spot = trial.locate(sender, channel.lastPlace(), leastLikeness);
        if (spot == NONE || sender.size == 0) {
            return sender.size;
        }
        System.arraycopy(channel.weights, 0, path.guess, 0, TAPS);
        path.follow(sender, trial, spot);
        return differences(unmix(path.bestRow, sender.size, sender.maskBits), sender.message);
    }

    private static boolean within(int v, int low, int high) {
        return v >= low && v <= high;
    }

    private static boolean areTaps(int a, int b, int c, int d) {
        return within(a, -MOST_TAP, MOST_TAP) && within(b, -MOST_TAP, MOST_TAP)
            && within(c, -MOST_TAP, MOST_TAP) && within(d, -MOST_TAP, MOST_TAP);
    }

    private static void setFour(int[] row, int a, int b, int c, int d) {
        if (row.length != TAPS) {
            return;
        }
        row[0] = a;
        row[1] = b;
        row[2] = c;
        row[3] = d;
    }

    // A row of BITS is a long: its last BIT is the lowest, so of two rows of one size the first is the lesser number.

    private static int bitOf(long row, int size, int i) {
        return (int) (row >> (size - 1 - i)) & 1;
    }

    private static int differences(long one, long other) {
        return Long.bitCount(one ^ other);
    }

    /** 1 if an odd number of bits are set, otherwise 0. */
    private static int oddness(long x) {
        return Long.bitCount(x) & 1;
    }

    /** SCRAMBLED. R needs no place of its own: MASK sees seven bits, and these are the last that were made. */
    private static long mix(long row, int size, int mask) {
        long made = 0;
        for (int i = 0; i < size; i++) {
            made = 2 * made + (bitOf(row, size, i) ^ oddness(made & mask));
        }
        return made;
    }

    /** UNSCRAMBLED: R are the SCRAMBLED bits ahead of BIT i. */
    private static long unmix(long row, int size, int mask) {
        long made = 0;
        for (int i = 0; i < size; i++) {
            long ahead = row >> (size - i);
            made = 2 * made + (bitOf(row, size, i) ^ oddness(ahead & mask));
        }
        return made;
    }

    /** THE MESSAGE, and THE FRAME that is made of it. */
    private static final class Sender {
        long message = 0;
        /** THE MESSAGE, SCRAMBLED; made anew with each change of either. */
        long mixed = 0;
        int size = 0;
        int maskBits = 0;
        int codeG = 13;
        int codeH = 15;
        int strength = 10;
        int callSize = 8;
        int callSigns = 212;

        void append(long w, int n) {
            message = (message << n) | (w & ((1L << n) - 1));
            size += n;
            mixed = mix(message, size, maskBits);
        }

        void empty() {
            message = 0;
            mixed = 0;
            size = 0;
        }

        void setMask(int m) {
            maskBits = m;
            mixed = mix(message, size, maskBits);
        }

        int steps() {
            return size + TAIL;
        }

        int frameSize() {
            return callSize + 2 * steps();
        }

        /** SIGN i of THE CALL, 1 or -1; 0 where there is none. */
        int sign(int i) {
            if (!within(i, 0, callSize - 1)) {
                return 0;
            }
            return bitOf(callSigns, callSize, i) == 1 ? 1 : -1;
        }

        /**
         * The VOICE of one of the two CODE BITS behind a row of bits: half 0 is G's, half 1 is H's.
         * M needs no place of its own: G and H see four bits, and these are the row's last.
         */
        int codeVoice(long row, int half) {
            int seeing = half == 0 ? codeG : codeH;
            return oddness(row & seeing) == 1 ? strength : -strength;
        }

        /** VOICE i of THE FRAME; 0 where there is none. */
        int frameVoice(int i) {
            if (i < callSize) {
                return sign(i) * strength;
            }
            int behind = i - callSize;
            int step = behind / 2;
            if (step >= steps()) {
                return 0;
            }
            long withTail = mixed << TAIL;
            return codeVoice(withTail >> (steps() - 1 - step), behind % 2);
        }
    }

    /** What THE CHANNEL does to voices. */
    private static final class Channel {
        final int[] weights = {1, 0, 0, 0};
        int lag = 0;
        int loudness = 0;
        int start = 1;
        int lostFrom = 0;
        int lostLength = 0;

        /** The last place at which all of THE FRAME would still be HEARD. */
        int lastPlace() {
            return lag + BEHIND;
        }

        int nextDraw(int z) {
            return (z * 1103515245 + 12345) & 2147483647;
        }

        int noiseOf(int z) {
            int span = 2 * loudness + 1;
            return span < 1 ? 0 : z / 65536 % span - loudness;
        }

        /** SAMPLE i, with the draw z. */
        int arrives(Sender sender, int i, int z) {
            if (i >= lostFrom && i < lostFrom + lostLength) {
                return 0;
            }
            int sum = noiseOf(z);
            for (int k = 0; k < weights.length; k++) {
                sum += weights[k] * sender.frameVoice(i - lag - k);
            }
            return Math.max(-MOST_SAMPLE, Math.min(MOST_SAMPLE, sum));
        }
    }

    /** SAMPLES, and THE CALL looked for in them. */
    private static final class Hearing {
        private final int[] samples = new int[MOST_SAMPLES];
        int length = 0;

        void listen(Sender sender, Channel channel, int seed) {
            length = Math.min(samples.length, channel.lag + sender.frameSize() + BEHIND);
            int z = seed;
            for (int i = 0; i < length; i++) {
                z = channel.nextDraw(z);
                samples[i] = channel.arrives(sender, i, z);
            }
        }

        int at(int i) {
            return within(i, 0, samples.length - 1) ? samples[i] : 0;
        }

        /** LIKENESS at place p. */
        int alike(Sender sender, int p) {
            int sum = 0;
            for (int i = 0; i < sender.callSize; i++) {
                sum += sender.sign(i) * at(p + i);
            }
            return sum;
        }

        /** The place that is FOUND, or NONE. */
        int locate(Sender sender, int lastPlace, int leastAlike) {
            if (sender.callSize == 0) {
                return NONE;
            }
            int best = 0;
            int most = alike(sender, 0);
            for (int p = 1; p <= lastPlace; p++) {
                int here = alike(sender, p);
                if (here > most) {
                    most = here;
                    best = p;
                }
            }
            return most < leastAlike ? NONE : best;
        }
    }

    /**
     * The path of least squares through code and taps together.
     * The two SAMPLES of a step hang on its bit and the five ahead of it: M sees three bits back, and the taps
     * reach two steps back. So a state is five bits, and a window (a state and the next bit) is six.
     */
    private static final class Path {
        private static final int STATES = 32;
        private static final int WINDOWS = 64;
        /** From this step on no tap reaches back into THE CALL, and the due samples are the same for each step. */
        private static final int STEADY_STEP = 2;
        private static final long UNREACHED = 1L << 60;

        final int[] guess = new int[TAPS];
        long bestCost = 0;
        long bestRow = 0;
        private final int[] firstDue = new int[WINDOWS];
        private final int[] secondDue = new int[WINDOWS];
        private final long[] costs = new long[STATES];
        private final long[] rows = new long[STATES];
        private final long[] nextCosts = new long[STATES];
        private final long[] nextRows = new long[STATES];

        void follow(Sender sender, Hearing hearing, int place) {
            begin();
            int spot = place + sender.callSize;
            int steps = sender.steps();
            for (int t = 0; t < steps; t++) {
                if (t <= STEADY_STEP) {
                    tabulate(sender, t);
                }
                goOn(hearing.at(spot + 2 * t), hearing.at(spot + 2 * t + 1), t < sender.size);
            }
            settle();
        }

        private void begin() {
            for (int s = 0; s < STATES; s++) {
                costs[s] = UNREACHED;
                rows[s] = 0;
            }
            costs[0] = 0;
        }

        private void tabulate(Sender sender, int t) {
            for (int w = 0; w < WINDOWS; w++) {
                firstDue[w] = dueSample(sender, t, w, 2 * t);
                secondDue[w] = dueSample(sender, t, w, 2 * t + 1);
            }
        }

        /** What guessed taps make of the voices up to number v behind THE CALL. */
        private int dueSample(Sender sender, int t, int window, int v) {
            int sum = 0;
            for (int k = 0; k < guess.length; k++) {
                int u = v - k;
                int voiced = u < 0
                    ? sender.sign(sender.callSize + u) * sender.strength
                    : sender.codeVoice(window >> (t - u / 2), u % 2);
                sum += guess[k] * voiced;
            }
            return sum;
        }

        /** One step with its two samples; a step of the tail is not free: its bit is 0, and none of the row. */
        private void goOn(int first, int second, boolean isFree) {
            for (int s = 0; s < STATES; s++) {
                nextCosts[s] = UNREACHED;
            }
            int stride = isFree ? 1 : 2;
            for (int w = 0; w < WINDOWS; w += stride) {
                int from = w / 2;
                if (costs[from] < UNREACHED) {
                    long one = first - firstDue[w];
                    long two = second - secondDue[w];
                    long row = isFree ? 2 * rows[from] + w % 2 : rows[from];
                    offer(w % STATES, costs[from] + one * one + two * two, row);
                }
            }
            System.arraycopy(nextCosts, 0, costs, 0, STATES);
            System.arraycopy(nextRows, 0, rows, 0, STATES);
        }

        private void offer(int to, long cost, long row) {
            if (!within(to, 0, STATES - 1)) {
                return;
            }
            if (cost < nextCosts[to] || cost == nextCosts[to] && row < nextRows[to]) {
                nextCosts[to] = cost;
                nextRows[to] = row;
            }
        }

        private void settle() {
            bestCost = costs[0];
            bestRow = rows[0];
            for (int s = 1; s < STATES; s++) {
                if (costs[s] < bestCost || costs[s] == bestCost && rows[s] < bestRow) {
                    bestCost = costs[s];
                    bestRow = rows[s];
                }
            }
        }
    }
}
