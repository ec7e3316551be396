/** Benches in a state, and single calls with what comes of them written as a string. */
abstract class Samples extends Checks {
    static final String MARK = "\\ No newline at end of file\n";
    static final String NAMES = "--- x\n+++ y\n";
    static final int MIN = Integer.MIN_VALUE;
    static final int MAX = Integer.MAX_VALUE;
    static final int NORMAL = 0;
    static final int UNIFIED = 1;
    static final int ED = 2;
    /** What is no TEXT. */
    static final int[] NO_TEXTS = {-1, 8, MIN, MAX};

    /** Nothing of it is empty or 0, so that whatever a refused call changes can be seen. */
    static Bench busy() {
        Bench x = new Bench();
        for (int t = 0; t < 8; t++) {
            x.put(t, "one\n" + t + "\nthree\n" + (t % 2 == 0 ? "end\n" : "open"));
        }
        x.tape(NAMES + "@@ -1,2 +1,2 @@\n other\n-three\n+3\n@@ -3 +3 @@\n-nowhere\n+4\n");
        x.apply(0, UNIFIED, 1, 6);
        x.write(1, 2, NORMAL, 0);
        x.tape("1d0\n< one\nleft on the tape\n");
        x.apply(0, NORMAL, 0, 5);
        return x;
    }

    /** What write() puts out; null where it is NONE. */
    static String written(String a, String b, int form, int n) {
        Bench x = new Bench();
        x.put(2, a);
        x.put(5, b);
        int bytes = x.write(2, 5, form, n);
        String out = x.outOf();
        due("bytes", bytes, bytes == -1 ? -1 : out.length());
        return bytes == -1 ? null : out;
    }

    /** What comes of it, or the two numbers of fault(). */
    static String applied(String text, String script, int form) {
        Bench x = new Bench();
        x.put(0, text);
        x.put(1, "as it was");
        x.tape(script);
        int rejected = x.apply(0, form, 0, 1);
        due("the text itself stays", x.textOf(0), text);
        if (rejected == -1) {
            due("what is refused changes nothing", x.textOf(1), "as it was");
            return "fault " + x.faults();
        }
        due("no fault", x.faults(), "0 0");
        return (rejected == 0 ? "" : rejected + " rejected: ") + x.textOf(1);
    }

    /** TEXT 0 to TEXT 1: how many were rejected, and of each hunk place, shift and fuzz. */
    static String hunks(Bench x, String script, int f) {
        x.tape(script);
        return x.apply(0, UNIFIED, f, 1) + ": " + x.hunks();
    }

    static String turned(String script, int form) {
        Bench x = new Bench();
        x.tape(script);
        due("bytes", x.turn(form), script.length());
        return x.outOf();
    }

    /** How many clashes, and OUT. */
    static String joined(String o, String a, String b) {
        Bench x = new Bench();
        x.put(0, o);
        x.put(1, a);
        x.put(2, b);
        return x.join(0, 1, 2) + ": " + x.outOf();
    }

    /** OUT is one clash of so many bytes and lines; TEXTS 0 to 2 are used for it. */
    static void clashOf(Bench x, int bytes, int lines) {
        int aBytes = (bytes - 24) / 2;
        int aLines = (lines - 3) / 2;
        x.put(0, "");
        x.put(1, block('a', aBytes, aLines));
        x.put(2, block('b', bytes - 24 - aBytes, lines - 3 - aLines));
        due("a clash", x.join(0, 1, 2), 1);
        due("of so many bytes", x.count(1), bytes);
    }

    /** So many bytes in so many lines, each with its 10. */
    static String block(char filling, int bytes, int lines) {
        return String.valueOf(filling).repeat(bytes - lines) + "\n".repeat(lines);
    }

    /** OUT is a hundred clashes, of so many bytes in all (5901 to 6200); TEXTS 0 to 2 are used for it. */
    static void manyClashes(Bench x, int bytes) {
        StringBuilder o = new StringBuilder();
        StringBuilder a = new StringBuilder();
        StringBuilder b = new StringBuilder();
        for (int n = 0; n < 100; n++) {
            o.append("=\n0\n");
            a.append("=\n").append("a".repeat(17)).append("\n");
            b.append("=\n").append("b".repeat(17 - (6299 - bytes - n) / 100)).append("\n");
        }
        x.put(0, o.toString());
        due("long a", x.put(1, a.toString()), 200);
        due("long b", x.put(2, b.toString()), 200);
        due("a hundred clashes", x.join(0, 1, 2), 100);
        due("of so many bytes", x.count(1), bytes);
    }
}
