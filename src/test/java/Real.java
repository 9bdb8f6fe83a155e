/** A NoiseBench that counts its calls: nothing is promised behind the 512th. */
final class Real implements Bench {
    static final int MOST_CALLS = 512;
    private final NoiseBench x = new NoiseBench();
    private int calls = 0;

    private NoiseBench next() {
        calls++;
        return x;
    }

    boolean isPromised() {
        return calls <= MOST_CALLS;
    }

    boolean hasRoomFor(int more) {
        return calls + more <= MOST_CALLS;
    }

    @Override public int bits(long w, int n) { return next().bits(w, n); }
    @Override public int clear() { return next().clear(); }
    @Override public int bit(int i) { return next().bit(i); }
    @Override public int mask(int m) { return next().mask(m); }
    @Override public int code(int g, int h) { return next().code(g, h); }
    @Override public int amp(int a) { return next().amp(a); }
    @Override public int call(int n, int signs) { return next().call(n, signs); }
    @Override public int taps(int a, int b, int c, int d) { return next().taps(a, b, c, d); }
    @Override public int air(int delay, int noise, int seed) { return next().air(delay, noise, seed); }
    @Override public int lose(int a, int n) { return next().lose(a, n); }
    @Override public int scrambled(int i) { return next().scrambled(i); }
    @Override public int voice(int i) { return next().voice(i); }
    @Override public int hear() { return next().hear(); }
    @Override public int sample(int i) { return next().sample(i); }
    @Override public int least(int v) { return next().least(v); }
    @Override public int find() { return next().find(); }
    @Override public int likeness(int p) { return next().likeness(p); }
    @Override public long bring(int a, int b, int c, int d) { return next().bring(a, b, c, d); }
    @Override public int brought(int way, int i) { return next().brought(way, i); }
    @Override public int errors() { return next().errors(); }
    @Override public int sweep(int k) { return next().sweep(k); }
    @Override public int whole(int k) { return next().whole(k); }
    @Override public int count(int what) { return next().count(what); }
}
