import java.util.Random;

/** Long runs of drawn calls, each answer held against the model's; the draws are the same in every run. */
public final class ModelTest {
    private static final int OBJECTS = 500;
    private static final int STEPS = 50;
    /** The dearest step is a bring: both rows of 40 BITS are asked for, and the state. */
    private static final int MOST_CALLS_OF_STEP = 1 + 2 * 40 + 6;
    private static final Check check = new Check();
    private final Random random;
    private final Real x = new Real();
    private final Model model = new Model();
    private final String name;
    /** A run of short messages is held against all rows, one by one. */
    private final boolean isShort;

    private ModelTest(int number) {
        random = new Random(number);
        name = "object " + number + ": ";
        isShort = number % 2 == 0;
    }

    public static void main(String[] args) {
        for (int number = 0; number < OBJECTS && check.isClean(); number++) {
            ModelTest run = new ModelTest(number);
            for (int i = 0; i < STEPS && run.x.hasRoomFor(MOST_CALLS_OF_STEP) && check.isClean(); i++) {
                run.step(i);
            }
            check.isTrue(run.name + "512 calls at most", run.x.isPromised());
        }
        check.end();
    }

    private void due(String call, long got, long want) {
        check.due(name + call, got, want);
    }

    /** Mostly a number within its bounds, often at their ends; now and then one outside. */
    private int draw(int low, int high) {
        switch (random.nextInt(24)) {
            case 0: return low - 1;
            case 1: return high + 1;
            case 2: return random.nextInt();
            case 3: return random.nextBoolean() ? Integer.MIN_VALUE : Integer.MAX_VALUE;
            case 4:
            case 5: return low;
            case 6:
            case 7: return high;
            default: return high < low ? low : low + random.nextInt(high - low + 1);
        }
    }

    private int tap() {
        return random.nextInt(60) == 0 ? draw(-20, 20) : random.nextInt(3) == 0 ? random.nextInt(41) - 20 : random.nextInt(3) - 1;
    }

    private void step(int i) {
        int what = random.nextInt(100);
        if (what < 12) {
            change(i);
        } else if (what < 40) {
            ask(i);
        } else if (what < 52) {
            due(i + " hear", x.hear(), model.hear());
        } else if (what < 66) {
            due(i + " find", x.find(), model.find());
        } else if (what < 84) {
            bring(i);
        } else if (what < 88) {
            int v = random.nextInt(3) == 0 ? draw(0, 1000000) : random.nextInt(400);
            due(i + " least " + v, x.least(v), model.least(v));
        } else if (what < 90) {
            int k = draw(1, 20);
            due(i + " sweep " + k, x.sweep(k), model.sweep(k));
            due(i + " whole " + k, x.whole(k), model.whole(k));
        }
        state(i);
    }

    private void bring(int i) {
        int a = tap();
        int b = tap();
        int c = tap();
        int d = tap();
        due(i + " bring " + a + " " + b + " " + c + " " + d, x.bring(a, b, c, d), model.bring(a, b, c, d));
        for (int j = 0; j < model.count(0); j++) {
            due(i + " brought 1 " + j, x.brought(1, j), model.brought(1, j));
            due(i + " brought 0 " + j, x.brought(0, j), model.brought(0, j));
        }
    }

    private void state(int i) {
        for (int what = 0; what < 5; what++) {
            due(i + " count " + what, x.count(what), model.count(what));
        }
        due(i + " errors", x.errors(), model.errors());
    }

    private void change(int i) {
        switch (random.nextInt(11)) {
            case 0:
            case 1:
                addBits(i);
                break;
            case 2:
                due(i + " clear", x.clear(), model.clear());
                break;
            case 3:
                int m = draw(0, 127);
                due(i + " mask " + m, x.mask(m), model.mask(m));
                break;
            case 4:
                int g = draw(1, 15);
                int h = draw(1, 15);
                due(i + " code " + g + " " + h, x.code(g, h), model.code(g, h));
                break;
            case 5:
                int a = draw(1, 100);
                due(i + " amp " + a, x.amp(a), model.amp(a));
                break;
            case 6:
                int n = draw(0, 16);
                int signs = n >= 0 && n <= 16 ? draw(0, (1 << n) - 1) : draw(0, 65535);
                due(i + " call " + n + " " + signs, x.call(n, signs), model.call(n, signs));
                break;
            case 7:
                int t = tap();
                int u = tap();
                int v = tap();
                int w = tap();
                due(i + " taps " + t + " " + u + " " + v + " " + w, x.taps(t, u, v, w), model.taps(t, u, v, w));
                break;
            case 8:
            case 9:
                air(i);
                break;
            default:
                int from = draw(0, 200);
                int length = random.nextBoolean() ? 0 : draw(0, 200);
                due(i + " lose " + from + " " + length, x.lose(from, length), model.lose(from, length));
        }
    }

    private void addBits(int i) {
        long w = random.nextLong();
        int n = isShort ? draw(0, Math.max(0, 9 - model.count(0))) : draw(1, 40);
        if (isShort && model.count(0) + (long) n > 9 && n <= 40) {
            n = 0;
        }
        due(i + " bits " + w + " " + n, x.bits(w, n), model.bits(w, n));
    }

    private void air(int i) {
        int delay = draw(0, 30);
        int noise = random.nextBoolean() ? random.nextInt(40) : draw(0, 500);
        int seed = random.nextInt(4) == 0 ? Integer.MAX_VALUE - random.nextInt(4) : random.nextInt();
        due(i + " air " + delay + " " + noise + " " + seed, x.air(delay, noise, seed), model.air(delay, noise, seed));
    }

    private void ask(int i) {
        int n = draw(0, model.count(0) - 1);
        due(i + " bit " + n, x.bit(n), model.bit(n));
        due(i + " scrambled " + n, x.scrambled(n), model.scrambled(n));
        int way = draw(0, 1);
        due(i + " brought " + way + " " + n, x.brought(way, n), model.brought(way, n));
        int v = draw(0, model.count(1) - 1);
        due(i + " voice " + v, x.voice(v), model.voice(v));
        int s = draw(0, model.count(1) + 8);
        due(i + " sample " + s, x.sample(s), model.sample(s));
        int p = draw(0, 38);
        due(i + " likeness " + p, x.likeness(p), model.likeness(p));
        int what = draw(0, 4);
        due(i + " count " + what, x.count(what), model.count(what));
    }
}
