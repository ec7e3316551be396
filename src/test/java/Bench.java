import java.nio.charset.StandardCharsets;
import java.util.ArrayList;
import java.util.List;
import java.util.function.ToIntFunction;

/**
 * A DiffBench that keeps what was done to it. The document promises 512 calls of an object; where a
 * test wants to see more, a new object is brought to the same state by the same changing calls.
 */
final class Bench {
    private static final int MOST_CALLS = 512;
    private static final int MOST_TEXT_BYTES = 2000;
    private static final int MOST_LINES = 200;

    private final List<ToIntFunction<DiffBench>> changes = new ArrayList<>();
    private DiffBench live = new DiffBench();
    private int calls = 0;

    /** How many calls may still change it. */
    int callsLeft() {
        return MOST_CALLS - changes.size();
    }

    int feed(int a, int b, int c, int d, int e) {
        return change(x -> x.feed(a, b, c, d, e));
    }

    boolean end(int n) {
        return change(x -> x.end(n) ? 1 : 0) == 1;
    }

    int text(int t) {
        return change(x -> x.text(t));
    }

    int keep(int t) {
        return change(x -> x.keep(t));
    }

    int load() {
        return change(x -> x.load());
    }

    int size(int t) {
        return ask(x -> x.size(t));
    }

    int byteAt(int t, int i) {
        return ask(x -> x.byteAt(t, i));
    }

    int lines(int t) {
        return ask(x -> x.lines(t));
    }

    int common(int a, int b) {
        return ask(x -> x.common(a, b));
    }

    int pair(int a, int b, int i) {
        return ask(x -> x.pair(a, b, i));
    }

    int changes(int a, int b) {
        return ask(x -> x.changes(a, b));
    }

    int change(int a, int b, int k, int what) {
        return ask(x -> x.change(a, b, k, what));
    }

    int write(int a, int b, int form, int n) {
        return change(x -> x.write(a, b, form, n));
    }

    int out(int i) {
        return ask(x -> x.out(i));
    }

    int apply(int t, int form, int f, int u) {
        return change(x -> x.apply(t, form, f, u));
    }

    int turn(int form) {
        return change(x -> x.turn(form));
    }

    int fault(int what) {
        return ask(x -> x.fault(what));
    }

    int hunk(int k, int what) {
        return ask(x -> x.hunk(k, what));
    }

    int join(int o, int a, int b) {
        return change(x -> x.join(o, a, b));
    }

    int count(int what) {
        return ask(x -> x.count(what));
    }

    /** The TAPE becomes this. */
    void tape(String text) {
        byte[] b = text.getBytes(StandardCharsets.ISO_8859_1);
        end(0);
        for (int i = 0; i < b.length; i += 20) {
            int[] five = new int[5];
            for (int n = 0; n < 20; n++) {
                five[n / 4] = five[n / 4] << 8 | (i + n < b.length ? b[i + n] & 255 : 0);
            }
            feed(five[0], five[1], five[2], five[3], five[4]);
        }
        end(b.length);
    }

    /** What text() answers of it. */
    int put(int t, String text) {
        tape(text);
        return text(t);
    }

    String textOf(int t) {
        StringBuilder s = new StringBuilder();
        for (int i = 0, size = size(t); i < size; i++) {
            s.append((char) byteAt(t, i));
        }
        return s.toString();
    }

    String outOf() {
        StringBuilder s = new StringBuilder();
        for (int i = 0, size = count(1); i < size; i++) {
            s.append((char) out(i));
        }
        return s.toString();
    }

    /** As much of the TAPE as a TEXT can show; another object shows it, since text() empties the TAPE. */
    String tapeOf() {
        Bench other = again();
        other.end(MOST_TEXT_BYTES);
        if (other.text(0) == DiffBench.NONE) {
            other.end(MOST_LINES);
            other.text(0);
        }
        return other.textOf(0);
    }

    String faults() {
        return fault(0) + " " + fault(1);
    }

    /** Of each HUNK of the latest apply() of UNIFIED: PLACE, SHIFT and FUZZ. */
    String hunks() {
        List<String> all = new ArrayList<>();
        for (int k = 0, size = count(2); k < size; k++) {
            all.add(hunk(k, 0) + " " + hunk(k, 1) + " " + hunk(k, 2));
        }
        return String.join(", ", all);
    }

    /** All that can be seen of it but what fault() tells. */
    String state() {
        StringBuilder s = new StringBuilder();
        for (int t = 0; t < 8; t++) {
            s.append("TEXT ").append(t).append(" of ").append(lines(t)).append(": ").append(textOf(t)).append('\n');
        }
        s.append("TAPE of ").append(count(0)).append(": ").append(tapeOf()).append('\n');
        s.append("OUT of ").append(count(1)).append(": ").append(outOf()).append('\n');
        return s.append("HUNKS: ").append(hunks()).toString();
    }

    /** Another object to which the same was done. */
    Bench again() {
        Bench other = new Bench();
        changes.forEach(other::change);
        return other;
    }

    private int change(ToIntFunction<DiffBench> call) {
        int answer = ask(call);
        changes.add(call);
        return answer;
    }

    private int ask(ToIntFunction<DiffBench> call) {
        if (calls == MOST_CALLS) {
            startAnew();
        }
        calls++;
        return call.applyAsInt(live);
    }

    private void startAnew() {
        if (changes.size() >= MOST_CALLS) {
            throw new IllegalStateException("a test goes beyond the 512 calls that are promised");
        }
        live = new DiffBench();
        calls = changes.size();
        changes.forEach(c -> c.applyAsInt(live));
    }
}
