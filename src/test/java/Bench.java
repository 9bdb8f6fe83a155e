/** The document's face: what NoiseBench (as Real) and Model both answer, so that one run of calls can be made on either. */
interface Bench {
    int bits(long w, int n);

    int clear();

    int bit(int i);

    int mask(int m);

    int code(int g, int h);

    int amp(int a);

    int call(int n, int signs);

    int taps(int a, int b, int c, int d);

    int air(int delay, int noise, int seed);

    int lose(int a, int n);

    int scrambled(int i);

    int voice(int i);

    int hear();

    int sample(int i);

    int least(int v);

    int find();

    int likeness(int p);

    long bring(int a, int b, int c, int d);

    int brought(int way, int i);

    int errors();

    int sweep(int k);

    int whole(int k);

    int count(int what);
}
