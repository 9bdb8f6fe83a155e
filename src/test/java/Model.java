import java.util.ArrayList;
import java.util.List;

/** The document's words, followed as plainly as can be and without regard to speed: NoiseBench is held against this. */
final class Model implements Bench {
    private static final int LOW = Integer.MIN_VALUE;
    private static final int MOST_ROWS_TRIED = 9;
    private final List<Integer> message = new ArrayList<>();
    private int mask = 0;
    private int g = 13;
    private int h = 15;
    private int amp = 10;
    private String call = "11010100";
    private int[] taps = {1, 0, 0, 0};
    private int delay = 0;
    private int noise = 0;
    private int seed = 1;
    private int lostFrom = 0;
    private int lostLength = 0;
    private int least = 1;
    private int[] heard = null;
    private int found = -1;
    private int[] row = null;
    private long cost = 0;

    private static boolean out(int v, int low, int high) {
        return v < low || v > high;
    }

    private int changed(int answer) {
        heard = null;
        found = -1;
        row = null;
        return answer;
    }

    @Override public int bits(long w, int n) {
        if (out(n, 1, 40)) return -2;
        if (message.size() + n > 40) return -4;
        for (int i = n - 1; i >= 0; i--) message.add((int) ((w >>> i) % 2 == 0 ? 0 : 1));
        return changed(message.size());
    }

    @Override public int clear() {
        int had = message.size();
        message.clear();
        return changed(had);
    }

    @Override public int bit(int i) {
        return out(i, 0, message.size() - 1) ? -2 : message.get(i);
    }

    @Override public int mask(int m) {
        if (out(m, 0, 127)) return -2;
        mask = m;
        return changed(1);
    }

    @Override public int code(int newG, int newH) {
        if (out(newG, 1, 15) || out(newH, 1, 15)) return -2;
        g = newG;
        h = newH;
        return changed(1);
    }

    @Override public int amp(int a) {
        if (out(a, 1, 100)) return -2;
        amp = a;
        return changed(1);
    }

    @Override public int call(int n, int signs) {
        if (out(n, 0, 16) || signs < 0 || signs >= Math.pow(2, n)) return -2;
        StringBuilder told = new StringBuilder();
        for (int i = n - 1; i >= 0; i--) told.append(signs / (int) Math.pow(2, i) % 2);
        call = told.toString();
        return changed(1);
    }

    @Override public int taps(int a, int b, int c, int d) {
        int[] wanted = {a, b, c, d};
        for (int t : wanted) if (out(t, -20, 20)) return -2;
        taps = wanted;
        return changed(1);
    }

    @Override public int air(int newDelay, int newNoise, int newSeed) {
        if (out(newDelay, 0, 30) || out(newNoise, 0, 500)) return -2;
        delay = newDelay;
        noise = newNoise;
        seed = newSeed;
        return changed(1);
    }

    @Override public int lose(int a, int n) {
        if (out(a, 0, 200) || out(n, 0, 200)) return -2;
        lostFrom = a;
        lostLength = n;
        return changed(1);
    }

    private static int odd(int x) {
        int ones = 0;
        for (int i = 0; i < 31; i++) ones += (x >> i) % 2;
        return ones % 2;
    }

    private int[] scramble() {
        int[] made = new int[message.size()];
        int r = 0;
        for (int i = 0; i < made.length; i++) {
            made[i] = odd(r & mask) == 1 ? 1 - message.get(i) : message.get(i);
            r = (2 * r + made[i]) % 128;
        }
        return made;
    }

    private int[] unscramble(int[] made) {
        int[] plain = new int[made.length];
        int r = 0;
        for (int i = 0; i < made.length; i++) {
            plain[i] = odd(r & mask) == 1 ? 1 - made[i] : made[i];
            r = (2 * r + made[i]) % 128;
        }
        return plain;
    }

    private int[] frameOf(int[] scrambled) {
        int[] frame = new int[call.length() + 2 * (scrambled.length + 3)];
        int size = 0;
        for (char sign : call.toCharArray()) frame[size++] = sign == '1' ? amp : -amp;
        int m = 0;
        for (int i = 0; i < scrambled.length + 3; i++) {
            m = (2 * m + (i < scrambled.length ? scrambled[i] : 0)) % 16;
            frame[size++] = odd(m & g) == 1 ? amp : -amp;
            frame[size++] = odd(m & h) == 1 ? amp : -amp;
        }
        return frame;
    }

    private static int through(int[] frame, int[] weights, int i) {
        int sum = 0;
        for (int k = 0; k < 4; k++) {
            if (i - k >= 0 && i - k < frame.length) sum += weights[k] * frame[i - k];
        }
        return sum;
    }

    @Override public int scrambled(int i) {
        return out(i, 0, message.size() - 1) ? -2 : scramble()[i];
    }

    @Override public int voice(int i) {
        int[] frame = frameOf(scramble());
        return out(i, 0, frame.length - 1) ? LOW : frame[i];
    }

    private int[] listen(int from) {
        int[] frame = frameOf(scramble());
        int[] samples = new int[delay + frame.length + 3 + 5];
        long z = from;
        for (int i = 0; i < samples.length; i++) {
            z = Math.floorMod(z * 1103515245L + 12345L, 2147483648L);
            int value = through(frame, taps, i - delay) + (int) (z / 65536 % (2 * noise + 1)) - noise;
            if (i >= lostFrom && i <= lostFrom + lostLength - 1) value = 0;
            samples[i] = value > 4000 ? 4000 : value < -4000 ? -4000 : value;
        }
        return samples;
    }

    private int alike(int[] samples, int p) {
        int sum = 0;
        for (int i = 0; i < call.length(); i++) sum += (call.charAt(i) == '1' ? 1 : -1) * samples[p + i];
        return sum;
    }

    private int seek(int[] samples) {
        int best = -1;
        for (int p = 0; p <= delay + 8; p++) {
            if (best < 0 || alike(samples, p) > alike(samples, best)) best = p;
        }
        return call.isEmpty() || alike(samples, best) < least ? -1 : best;
    }

    @Override public int hear() {
        heard = listen(seed);
        return heard.length;
    }

    @Override public int sample(int i) {
        return heard == null || out(i, 0, heard.length - 1) ? LOW : heard[i];
    }

    @Override public int least(int v) {
        if (out(v, 0, 1000000)) return -2;
        int was = least;
        least = v;
        return was;
    }

    @Override public int find() {
        if (heard == null) return -3;
        found = seek(heard);
        if (found < 0) row = null;
        return found;
    }

    @Override public int likeness(int p) {
        return heard == null || out(p, 0, delay + 8) ? LOW : alike(heard, p);
    }

    @Override public long bring(int a, int b, int c, int d) {
        int[] guess = {a, b, c, d};
        for (int t : guess) if (out(t, -20, 20)) return -2;
        if (found < 0 || message.isEmpty()) return -3;
        row = nearest(heard, found, guess);
        return cost;
    }

    private long costOf(int[] tried, int[] samples, int p, int[] guess) {
        int[] frame = frameOf(tried);
        long sum = 0;
        for (int i = call.length(); i < frame.length; i++) {
            long off = samples[p + i] - through(frame, guess, i);
            sum += off * off;
        }
        return sum;
    }

    private int[] nearest(int[] samples, int p, int[] guess) {
        int[] best = message.size() <= MOST_ROWS_TRIED ? firstOfAll(samples, p, guess) : byCostToGo(samples, p, guess);
        cost = costOf(best, samples, p, guess);
        return best;
    }

    private int[] firstOfAll(int[] samples, int p, int[] guess) {
        int n = message.size();
        int[] best = null;
        long bestCost = 0;
        for (int number = 0; number < 1 << n; number++) {
            int[] tried = new int[n];
            for (int i = 0; i < n; i++) tried[i] = (number >> (n - 1 - i)) & 1;
            long here = costOf(tried, samples, p, guess);
            if (best == null || here < bestCost) {
                best = tried;
                bestCost = here;
            }
        }
        return best;
    }

    /** Too many rows to try: from the end back, the least cost that can follow each eight last bits; then forward. */
    private int[] byCostToGo(int[] samples, int p, int[] guess) {
        int n = message.size();
        long[][] toGo = new long[n + 4][256];
        for (int t = n + 2; t >= 0; t--) {
            for (int last = 0; last < 256; last++) {
                long zero = costOfStep(samples, p, guess, t, 2 * last) + toGo[t + 1][2 * last % 256];
                long one = costOfStep(samples, p, guess, t, 2 * last + 1) + toGo[t + 1][(2 * last + 1) % 256];
                toGo[t][last] = t < n ? Math.min(zero, one) : zero;
            }
        }
        int[] best = new int[n];
        int last = 0;
        for (int t = 0; t < n; t++) {
            long zero = costOfStep(samples, p, guess, t, 2 * last) + toGo[t + 1][2 * last % 256];
            best[t] = zero == toGo[t][last] ? 0 : 1;
            last = (2 * last + best[t]) % 256;
        }
        return best;
    }

    /** The cost of step t's two samples, where these are the last nine bits (0 ahead of the first). */
    private long costOfStep(int[] samples, int p, int[] guess, int t, int bits) {
        long sum = 0;
        for (int i = 2 * t; i < 2 * t + 2; i++) {
            long due = 0;
            for (int k = 0; k < 4; k++) {
                int v = i - k;
                int at = call.length() + v;
                if (v >= 0) due += guess[k] * (odd((bits >> (t - v / 2)) % 16 & (v % 2 == 0 ? g : h)) == 1 ? amp : -amp);
                else if (at >= 0) due += guess[k] * (call.charAt(at) == '1' ? amp : -amp);
            }
            long off = samples[p + call.length() + i] - due;
            sum += off * off;
        }
        return sum;
    }

    @Override public int brought(int way, int i) {
        if (out(way, 0, 1) || out(i, 0, message.size() - 1)) return -2;
        if (row == null) return -3;
        return way == 1 ? row[i] : unscramble(row)[i];
    }

    private int errorsOf(int[] made) {
        int[] plain = unscramble(made);
        int wrong = 0;
        for (int i = 0; i < plain.length; i++) if (plain[i] != message.get(i)) wrong++;
        return wrong;
    }

    @Override public int errors() {
        return row == null ? -3 : errorsOf(row);
    }

    private int errorsOfSending(int from) {
        int[] samples = listen(from);
        int p = seek(samples);
        if (p < 0) return message.size();
        if (message.isEmpty()) return 0;
        long keptCost = cost;
        int[] made = nearest(samples, p, taps);
        cost = keptCost;
        return errorsOf(made);
    }

    @Override public int sweep(int k) {
        if (out(k, 1, 20)) return -2;
        int together = 0;
        for (int j = 0; j < k; j++) together += errorsOfSending(seed + j);
        return together;
    }

    @Override public int whole(int k) {
        if (out(k, 1, 20)) return -2;
        for (int j = 1; j <= k; j++) if (errorsOfSending(seed + j - 1) == 0) return j;
        return -1;
    }

    @Override public int count(int what) {
        switch (what) {
            case 0: return message.size();
            case 1: return frameOf(scramble()).length;
            case 2: return heard == null ? -1 : heard.length;
            case 3: return found;
            case 4: return row == null ? 0 : 1;
            default: return -2;
        }
    }
}
