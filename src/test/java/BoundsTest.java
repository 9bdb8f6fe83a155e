import java.util.ArrayList;
import java.util.List;
import java.util.function.Consumer;
import java.util.function.ToLongFunction;

/**
 * The document's numbers with their bounds, in every state that an object can be in: the last number that is allowed
 * and the first that is not, on both sides. A refused call is held against a model that was never called so: it changes
 * nothing. A change, also to what it was, ends what was HEARD, FOUND and BROUGHT BACK.
 */
public final class BoundsTest {
    private static final int LOW = Integer.MIN_VALUE;
    private static final int HIGH = Integer.MAX_VALUE;
    private static final int NONE = -1;
    private static final int BAD = -2;
    private static final int NOT = -3;
    private static final int FULL = -4;
    private static final Check check = new Check();

    /** A call with the answer that is due. */
    private record Due(String name, ToLongFunction<Bench> call, long answer) {
    }

    /** A run of calls on a new object that ends in a state; so many SAMPLES, this place, and whether BROUGHT BACK. */
    private record State(String name, Consumer<Bench> run, int samples, int place, int brought) {
        Real real() {
            Real x = new Real();
            run.accept(x);
            return x;
        }

        Model model() {
            Model x = new Model();
            run.accept(x);
            return x;
        }

        boolean isHeard() {
            return samples != NONE;
        }

        boolean isFound() {
            return place != NONE;
        }
    }

    private static final List<State> STATES = List.of(
        new State("new", x -> { }, NONE, NONE, 0),
        new State("new, heard", x -> x.hear(), 22, NONE, 0),
        new State("new, found", BoundsTest::hearAndFind, 22, 0, 0),
        new State("full", x -> x.bits(0x123456789aL, 40), NONE, NONE, 0),
        new State("full, brought back", x -> {
            x.bits(0x123456789aL, 40);
            hearAndFind(x);
            x.bring(1, 0, 0, 0);
        }, 102, 0, 1),
        new State("no call", x -> {
            x.bits(5, 3);
            x.call(0, 0);
            hearAndFind(x);
        }, 20, NONE, 0),
        new State("all changed", BoundsTest::changeAll, NONE, NONE, 0),
        new State("all changed, heard", x -> {
            changeAll(x);
            x.hear();
        }, 34, NONE, 0),
        new State("all changed, not found", x -> {
            changeAll(x);
            x.least(1000000);
            hearAndFind(x);
        }, 34, NONE, 0),
        new State("all changed, found", x -> {
            changeAll(x);
            hearAndFind(x);
        }, 34, 3, 0),
        new State("all changed, brought back", x -> {
            changeAll(x);
            hearAndFind(x);
            x.bring(4, -2, 1, 3);
        }, 34, 3, 1));

    public static void main(String[] args) {
        for (State state : STATES) {
            List<String> unchanged = Told.all(state.model());
            told(state, unchanged);
            changeNothing(state, bad(state), unchanged);
            changeNothing(state, not(state), unchanged);
            changeNothing(state, full(state), unchanged);
            changeNothing(state, asked(state), unchanged);
            for (Due change : changes(state)) {
                changes(state, change);
            }
            least(state);
        }
        sameChanges();
        check.end();
    }

    private static void hearAndFind(Bench x) {
        x.hear();
        x.find();
    }

    /** Nothing is as it was at first. Noise and the lost stretch are such that THE CALL is still found behind DELAY. */
    private static void changeAll(Bench x) {
        x.bits(0b101101, 6);
        x.mask(77);
        x.code(11, 6);
        x.amp(37);
        x.call(5, 0b10110);
        x.taps(4, -2, 1, 3);
        x.air(3, 60, -5);
        x.lose(12, 4);
        x.least(2);
    }

    // ---- what is held against what

    private static void same(String what, Real got, List<String> want) {
        String difference = Told.difference(Told.all(got), want);
        check.isTrue(what + ": " + difference, difference.isEmpty());
        check.isTrue(what + ": 512 calls at most", got.isPromised());
    }

    private static void told(State state, List<String> want) {
        Real x = state.real();
        check.due(state.name + ": samples", x.count(2), state.samples);
        check.due(state.name + ": place", x.count(3), state.place);
        check.due(state.name + ": brought", x.count(4), state.brought);
        same(state.name, state.real(), want);
    }

    private static void changeNothing(State state, List<Due> calls, List<String> unchanged) {
        for (Due due : calls) {
            Real x = state.real();
            String what = state.name + ", then " + due.name;
            check.due(what, due.call.applyAsLong(x), due.answer);
            same(what + ", which changes nothing", x, unchanged);
        }
    }

    private static void changes(State state, Due change) {
        Real x = state.real();
        Model model = state.model();
        String what = state.name + ", then " + change.name;
        check.due(what, change.call.applyAsLong(x), change.answer);
        change.call.applyAsLong(model);
        ended(what, x);
        same(what, x, Told.all(model));
    }

    private static void ended(String what, Bench x) {
        check.due(what + ": samples", x.count(2), NONE);
        check.due(what + ": place", x.count(3), NONE);
        check.due(what + ": brought", x.count(4), 0);
    }

    // ---- numbers out of their bounds

    /** BAD comes ahead of NOT and FULL: these are due in every state. */
    private static List<Due> bad(State state) {
        List<Due> all = new ArrayList<>();
        for (int n : new int[] {LOW, -1, 0, 41, HIGH}) {
            all.add(new Due("bits(5, " + n + ")", x -> x.bits(5, n), BAD));
        }
        for (int m : new int[] {LOW, -1, 128, HIGH}) {
            all.add(new Due("mask(" + m + ")", x -> x.mask(m), BAD));
        }
        for (int g : new int[] {LOW, -1, 0, 16, HIGH}) {
            all.add(new Due("code(" + g + ", 7)", x -> x.code(g, 7), BAD));
            all.add(new Due("code(7, " + g + ")", x -> x.code(7, g), BAD));
        }
        for (int a : new int[] {LOW, -1, 0, 101, HIGH}) {
            all.add(new Due("amp(" + a + ")", x -> x.amp(a), BAD));
        }
        for (int v : new int[] {LOW, -1, 1000001, HIGH}) {
            all.add(new Due("least(" + v + ")", x -> x.least(v), BAD));
        }
        for (int k : new int[] {LOW, -1, 0, 21, HIGH}) {
            all.add(new Due("sweep(" + k + ")", x -> x.sweep(k), BAD));
            all.add(new Due("whole(" + k + ")", x -> x.whole(k), BAD));
        }
        for (int what : new int[] {LOW, -1, 5, HIGH}) {
            all.add(new Due("count(" + what + ")", x -> x.count(what), BAD));
        }
        badCalls(all);
        badTaps(all);
        badAir(all);
        badPlaces(state, all);
        return all;
    }

    private static void badCalls(List<Due> all) {
        for (int n : new int[] {LOW, -1, 17, 32, HIGH}) {
            all.add(new Due("call(" + n + ", 0)", x -> x.call(n, 0), BAD));
        }
        for (int i = 0; i <= 16; i++) {
            int n = i;
            all.add(new Due("call(" + n + ", 1 << n)", x -> x.call(n, 1 << n), BAD));
            all.add(new Due("call(" + n + ", -1)", x -> x.call(n, -1), BAD));
            all.add(new Due("call(" + n + ", the least)", x -> x.call(n, LOW), BAD));
        }
    }

    private static void badTaps(List<Due> all) {
        for (int t : new int[] {LOW, -21, 21, HIGH}) {
            all.add(new Due("taps(" + t + ", 0, 0, 0)", x -> x.taps(t, 0, 0, 0), BAD));
            all.add(new Due("taps(0, " + t + ", 0, 0)", x -> x.taps(0, t, 0, 0), BAD));
            all.add(new Due("taps(0, 0, " + t + ", 0)", x -> x.taps(0, 0, t, 0), BAD));
            all.add(new Due("taps(0, 0, 0, " + t + ")", x -> x.taps(0, 0, 0, t), BAD));
            all.add(new Due("bring(" + t + ", 0, 0, 0)", x -> x.bring(t, 0, 0, 0), BAD));
            all.add(new Due("bring(0, " + t + ", 0, 0)", x -> x.bring(0, t, 0, 0), BAD));
            all.add(new Due("bring(0, 0, " + t + ", 0)", x -> x.bring(0, 0, t, 0), BAD));
            all.add(new Due("bring(0, 0, 0, " + t + ")", x -> x.bring(0, 0, 0, t), BAD));
        }
    }

    private static void badAir(List<Due> all) {
        for (int delay : new int[] {LOW, -1, 31, HIGH}) {
            all.add(new Due("air(" + delay + ", 9, 9)", x -> x.air(delay, 9, 9), BAD));
        }
        for (int noise : new int[] {LOW, -1, 501, HIGH}) {
            all.add(new Due("air(9, " + noise + ", 9)", x -> x.air(9, noise, 9), BAD));
        }
        for (int a : new int[] {LOW, -1, 201, HIGH}) {
            all.add(new Due("lose(" + a + ", 9)", x -> x.lose(a, 9), BAD));
            all.add(new Due("lose(9, " + a + ")", x -> x.lose(9, a), BAD));
        }
    }

    private static void badPlaces(State state, List<Due> all) {
        Model model = state.model();
        int size = model.count(0);
        int voices = model.count(1);
        for (int i : new int[] {LOW, -1, size, 40, HIGH}) {
            all.add(new Due("bit(" + i + ")", x -> x.bit(i), BAD));
            all.add(new Due("scrambled(" + i + ")", x -> x.scrambled(i), BAD));
            all.add(new Due("brought(0, " + i + ")", x -> x.brought(0, i), BAD));
            all.add(new Due("brought(1, " + i + ")", x -> x.brought(1, i), BAD));
        }
        for (int way : new int[] {LOW, -1, 2, HIGH}) {
            all.add(new Due("brought(" + way + ", 0)", x -> x.brought(way, 0), BAD));
        }
        for (int i : new int[] {LOW, -1, voices, HIGH}) {
            all.add(new Due("voice(" + i + ")", x -> x.voice(i), LOW));
        }
        int samples = Math.max(0, state.samples);
        int places = state.isHeard() ? samples - voices + 1 : 0;
        for (int i : new int[] {LOW, -1, samples, HIGH}) {
            all.add(new Due("sample(" + i + ")", x -> x.sample(i), LOW));
        }
        for (int p : new int[] {LOW, -1, places, HIGH}) {
            all.add(new Due("likeness(" + p + ")", x -> x.likeness(p), LOW));
        }
    }

    // ---- nothing was HEARD, is FOUND or BROUGHT BACK; the message is full

    private static List<Due> not(State state) {
        List<Due> all = new ArrayList<>();
        int size = state.model().count(0);
        if (!state.isHeard()) {
            all.add(new Due("find()", x -> x.find(), NOT));
            all.add(new Due("sample(0)", x -> x.sample(0), LOW));
            all.add(new Due("likeness(0)", x -> x.likeness(0), LOW));
        }
        if (!state.isFound() || size == 0) {
            for (int t : new int[] {-20, 0, 20}) {
                all.add(new Due("bring of " + t, x -> x.bring(t, t, t, t), NOT));
            }
        }
        if (state.brought == 0) {
            all.add(new Due("errors()", x -> x.errors(), NOT));
        }
        if (state.brought == 0 && size > 0) {
            all.add(new Due("brought(0, 0)", x -> x.brought(0, 0), NOT));
            all.add(new Due("brought(1, the last)", x -> x.brought(1, size - 1), NOT));
        }
        return all;
    }

    private static List<Due> full(State state) {
        List<Due> all = new ArrayList<>();
        int size = state.model().count(0);
        for (int n = 41 - size; n <= 40; n++) {
            int more = n;
            all.add(new Due("bits(-1, " + more + ")", x -> x.bits(-1, more), FULL));
        }
        return all;
    }

    // ---- what is asked changes nothing, and neither does a sweep

    private static List<Due> asked(State state) {
        List<Due> all = new ArrayList<>();
        Model model = state.model();
        int lastVoice = model.count(1) - 1;
        all.add(new Due("voice(0)", x -> x.voice(0), model.voice(0)));
        all.add(new Due("voice(the last)", x -> x.voice(lastVoice), model.voice(lastVoice)));
        for (int k : new int[] {1, 20}) {
            all.add(new Due("sweep(" + k + ")", x -> x.sweep(k), model.sweep(k)));
            all.add(new Due("whole(" + k + ")", x -> x.whole(k), model.whole(k)));
        }
        for (int i = 0; i < 5; i++) {
            int what = i;
            all.add(new Due("count(" + what + ")", x -> x.count(what), model.count(what)));
        }
        askedOfBits(state, model, all);
        if (state.isHeard()) {
            int lastPlace = state.samples - model.count(1);
            all.add(new Due("sample(the last)", x -> x.sample(state.samples - 1), model.sample(state.samples - 1)));
            all.add(new Due("likeness(0)", x -> x.likeness(0), model.likeness(0)));
            all.add(new Due("likeness(the last)", x -> x.likeness(lastPlace), model.likeness(lastPlace)));
        }
        return all;
    }

    private static void askedOfBits(State state, Model model, List<Due> all) {
        int last = model.count(0) - 1;
        if (last < 0) {
            return;
        }
        for (int i : new int[] {0, last}) {
            all.add(new Due("bit(" + i + ")", x -> x.bit(i), model.bit(i)));
            all.add(new Due("scrambled(" + i + ")", x -> x.scrambled(i), model.scrambled(i)));
            if (state.brought == 1) {
                all.add(new Due("brought(0, " + i + ")", x -> x.brought(0, i), model.brought(0, i)));
                all.add(new Due("brought(1, " + i + ")", x -> x.brought(1, i), model.brought(1, i)));
            }
        }
    }

    // ---- the last numbers that are allowed

    private static List<Due> changes(State state) {
        List<Due> all = new ArrayList<>();
        int size = state.model().count(0);
        all.add(new Due("clear()", x -> x.clear(), size));
        if (size < 40) {
            all.add(new Due("bits(1, 1)", x -> x.bits(1, 1), size + 1));
            all.add(new Due("bits, as many as there is room", x -> x.bits(-1, 40 - size), 40));
        }
        for (int m : new int[] {0, 1, 64, 127}) {
            all.add(new Due("mask(" + m + ")", x -> x.mask(m), 1));
        }
        for (int g : new int[] {1, 15}) {
            all.add(new Due("code(" + g + ", 7)", x -> x.code(g, 7), 1));
            all.add(new Due("code(7, " + g + ")", x -> x.code(7, g), 1));
        }
        for (int a : new int[] {1, 100}) {
            all.add(new Due("amp(" + a + ")", x -> x.amp(a), 1));
        }
        for (int n : new int[] {0, 1, 8, 16}) {
            int most = (1 << n) - 1;
            all.add(new Due("call(" + n + ", 0)", x -> x.call(n, 0), 1));
            all.add(new Due("call(" + n + ", " + most + ")", x -> x.call(n, most), 1));
        }
        changesOfChannel(all);
        return all;
    }

    private static void changesOfChannel(List<Due> all) {
        for (int t : new int[] {-20, 20}) {
            all.add(new Due("taps(" + t + ", 0, 0, 0)", x -> x.taps(t, 0, 0, 0), 1));
            all.add(new Due("taps(0, " + t + ", 0, 0)", x -> x.taps(0, t, 0, 0), 1));
            all.add(new Due("taps(0, 0, " + t + ", 0)", x -> x.taps(0, 0, t, 0), 1));
            all.add(new Due("taps(0, 0, 0, " + t + ")", x -> x.taps(0, 0, 0, t), 1));
        }
        for (int seed : new int[] {LOW, -1, 0, HIGH}) {
            all.add(new Due("air(0, 500, " + seed + ")", x -> x.air(0, 500, seed), 1));
        }
        all.add(new Due("air(30, 0, 9)", x -> x.air(30, 0, 9), 1));
        for (int a : new int[] {0, 200}) {
            all.add(new Due("lose(" + a + ", 0)", x -> x.lose(a, 0), 1));
            all.add(new Due("lose(" + a + ", 200)", x -> x.lose(a, 200), 1));
        }
    }

    /** THE LEAST is no number of 1 or 2: what was HEARD, FOUND and BROUGHT BACK stays. */
    private static void least(State state) {
        for (int v : new int[] {0, 1000000}) {
            Real x = state.real();
            Model model = state.model();
            String what = state.name + ", then least(" + v + ")";
            check.due(what, x.least(v), model.least(v));
            check.due(what + ": samples", x.count(2), state.samples);
            check.due(what + ": place", x.count(3), state.place);
            check.due(what + ": brought", x.count(4), state.brought);
            same(what, x, Told.all(model));
        }
    }

    // ---- changes to what it was

    private static void sameChanges() {
        State brought = STATES.get(STATES.size() - 1);
        List<Due> same = List.of(
            new Due("mask(77)", x -> x.mask(77), 1),
            new Due("code(11, 6)", x -> x.code(11, 6), 1),
            new Due("amp(37)", x -> x.amp(37), 1),
            new Due("call(5, 22)", x -> x.call(5, 22), 1),
            new Due("taps(4, -2, 1, 3)", x -> x.taps(4, -2, 1, 3), 1),
            new Due("air(3, 60, -5)", x -> x.air(3, 60, -5), 1),
            new Due("lose(12, 4)", x -> x.lose(12, 4), 1));
        for (Due change : same) {
            Real x = brought.real();
            Model unheard = new Model();
            changeAll(unheard);
            String what = brought.name + ", then to what it was " + change.name;
            check.due(what, change.call.applyAsLong(x), change.answer);
            ended(what, x);
            same(what, x, Told.all(unheard));
        }
        Real empty = STATES.get(2).real();
        check.due("clear() of an empty one", empty.clear(), 0);
        ended("clear() of an empty one", empty);
        same("clear() of an empty one", empty, Told.all(new Model()));
    }
}
