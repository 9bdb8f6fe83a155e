import java.util.ArrayList;
import java.util.List;

/**
 * All that a bench tells of itself, as one row of answers. Two benches that tell the same row are the same to the
 * document; so a call that must change nothing is held against a bench that was never called so.
 */
final class Told {
    private static final int SENDINGS = 3;
    private final List<String> row = new ArrayList<>();
    private final Bench x;

    private Told(Bench x) {
        this.x = x;
    }

    static List<String> all(Bench x) {
        Told told = new Told(x);
        told.state();
        told.message();
        told.heard();
        told.hidden();
        return told.row;
    }

    /** The first answer that is not the same, or an empty text. */
    static String difference(List<String> got, List<String> want) {
        for (int i = 0; i < Math.max(got.size(), want.size()); i++) {
            String one = i < got.size() ? got.get(i) : "nothing more";
            String other = i < want.size() ? want.get(i) : "nothing more";
            if (!one.equals(other)) {
                return "told is " + one + ", due is " + other;
            }
        }
        return "";
    }

    private void tell(String call, long answer) {
        row.add(call + " = " + answer);
    }

    private void state() {
        for (int what = 0; what < 5; what++) {
            tell("count(" + what + ")", x.count(what));
        }
        tell("errors()", x.errors());
    }

    private void message() {
        int size = x.count(0);
        for (int i = 0; i <= size; i++) {
            tell("bit(" + i + ")", x.bit(i));
            tell("scrambled(" + i + ")", x.scrambled(i));
        }
        int voices = x.count(1);
        for (int i = 0; i <= voices; i++) {
            tell("voice(" + i + ")", x.voice(i));
        }
    }

    private void samples() {
        int samples = Math.max(0, x.count(2));
        for (int i = 0; i <= samples; i++) {
            tell("sample(" + i + ")", x.sample(i));
        }
    }

    private void heard() {
        samples();
        int last = Math.max(0, x.count(2) - x.count(1));
        for (int p = 0; p <= last + 1; p++) {
            tell("likeness(" + p + ")", x.likeness(p));
        }
        brought(0);
    }

    private void brought(int way) {
        int size = x.count(0);
        for (int i = 0; i < size; i++) {
            tell("brought(" + way + ", " + i + ")", x.brought(way, i));
        }
    }

    /** What no call tells by itself: THE LEAST, and the numbers of THE CHANNEL, which a new hearing shows. */
    private void hidden() {
        int least = x.least(0);
        tell("least(0)", least);
        tell("least(that which it was)", x.least(least));
        tell("sweep(3)", x.sweep(SENDINGS));
        tell("whole(3)", x.whole(SENDINGS));
        state();
        tell("hear()", x.hear());
        samples();
        tell("find()", x.find());
        tell("bring(4, -2, 1, 3)", x.bring(4, -2, 1, 3));
        tell("errors()", x.errors());
        brought(1);
    }
}
