/** The boundary cases of promises 10 to 14: the SCRIPT and its three forms, section 2 of the terms. */
public final class ScriptBoundaries extends Samples {
    private static final String HEAD = "--- a\n+++ b\n";

    public static void main(String[] args) {
        textsOfScript();
        common();
        alike();
        pairs();
        whichGoes();
        textsThatChanged();
        changes();
        mostChanges();
        change();
        argumentsOfWrite();
        linesAround();
        normalRanges();
        unifiedNothing();
        pairsBetweenChanges();
        linesAheadAndBehind();
        unifiedRanges();
        unifiedOrder();
        edCommands();
        edThatCantBe();
        openLines();
        longestScripts();
        finish();
    }

    private static void textsOfScript() {
        for (int t : NO_TEXTS) {
            sentence(10, "L(1, 1) of two TEXTS; NONE if there is none such.");
            refused("common of a " + t, busy(), b -> b.common(t, 0));
            refused("common of b " + t, busy(), b -> b.common(0, t));
            sentence(11, "0 if it GOES; NONE if there is none such.");
            refused("pair of a " + t, busy(), b -> b.pair(t, 0, 1));
            refused("pair of b " + t, busy(), b -> b.pair(0, t, 1));
            sentence(12, "CHANGES of a to b; NONE if there is no such TEXT.");
            refused("changes of a " + t, busy(), b -> b.changes(t, 0));
            refused("changes of b " + t, busy(), b -> b.changes(0, t));
            sentence(13, "3 how many COME. NONE if there is none such.");
            refused("change of a " + t, busy(), b -> b.change(t, 0, 0, 0));
            refused("change of b " + t, busy(), b -> b.change(0, t, 0, 0));
            sentence(14, "NONE, and OUT stays, if there is no such TEXT, form or n, or it can't be.");
            for (int form = 0; form < 3; form++) {
                int inForm = form;
                refused("write of a " + t, busy(), b -> b.write(t, 0, inForm, 0));
                refused("write of b " + t, busy(), b -> b.write(0, t, inForm, 0));
            }
        }
        Bench x = new Bench();
        x.put(0, "a\nb\n");
        x.put(7, "b\n");
        sentence(10, "L(1, 1) of two TEXTS");
        due("common 0 7", x.common(0, 7), 1);
        sentence(11, "the number of b's LINE");
        due("pair 7 0", x.pair(7, 0, 1), 2);
        sentence(12, "CHANGES of a to b");
        due("changes 7 0", x.changes(7, 0), 1);
        sentence(13, "3 how many COME");
        due("change 7 0", x.change(7, 0, 0, 3), 1);
        sentence(14, "OUT is the SCRIPT of a to b in a form");
        due("write 0 7", x.write(0, 7, NORMAL, 0), 8);
        due("write 7 0", x.write(7, 0, ED, 0), 7);
    }

    private static void common() {
        sentence(10, "L(1, 1) of two TEXTS");
        Bench x = new Bench();
        x.put(1, "a\n".repeat(200));
        x.put(2, "b\n".repeat(200));
        x.put(3, "a\n");
        due("both empty", x.common(0, 4), 0);
        due("a empty", x.common(0, 1), 0);
        due("b empty", x.common(1, 0), 0);
        due("none of 200", x.common(1, 2), 0);
        due("all of 200", x.common(1, 1), 200);
        due("one of 200", x.common(1, 3), 1);
        due("one of 200", x.common(3, 1), 1);
        x.put(2, "b\n".repeat(199) + "a\n");
        due("the first one and the last one", x.common(1, 2), 1);
    }

    private static void alike() {
        sentence(11, "Two LINES are ALIKE if all their BYTES are (a 10, too).");
        due("a 10 more", pairOf("x\n", "x"), 0);
        due("a 10 less", pairOf("x", "x\n"), 0);
        due("both OPEN", pairOf("x", "x"), 1);
        due("the 10 alone", pairOf("\n", "\n"), 1);
        due("another last BYTE", pairOf("abc\n", "abd\n"), 0);
        due("another first BYTE", pairOf("abc\n", "bbc\n"), 0);
        due("a BYTE more", pairOf("abc\n", "abcc\n"), 0);
        due("a BYTE less", pairOf("abc\n", "ab\n"), 0);
        due("other BYTES, though the same sum", pairOf("Aa\n", "BB\n"), 0);
        due("above 127", pairOf("\u00FF\n", "\u007F\n"), 0);
        due("another order", pairOf("ab\n", "ba\n"), 0);
        due("2000 BYTES", pairOf("x".repeat(2000), "x".repeat(2000)), 1);
        due("the last one of 2000 BYTES", pairOf("x".repeat(2000), "x".repeat(1999) + "y"), 0);
    }

    private static int pairOf(String a, String b) {
        Bench x = new Bench();
        x.put(0, a);
        x.put(1, b);
        return x.pair(0, 1, 1);
    }

    private static void pairs() {
        sentence(11, "LINES are counted from 1.");
        sentence(11, "Whether LINE i of a is a PAIR in the SCRIPT of a to b: the number of b's LINE; 0 if it GOES; NONE if there is none such.");
        Bench x = new Bench();
        x.put(0, "a\nb\nc\n");
        x.put(1, "b\nc\nd\ne\n");
        due("LINE 0", x.pair(0, 1, 0), -1);
        due("LINE 1", x.pair(0, 1, 1), 0);
        due("LINE 2", x.pair(0, 1, 2), 1);
        due("LINE 3, the last", x.pair(0, 1, 3), 2);
        due("LINE 4, which b has alone", x.pair(0, 1, 4), -1);
        due("b has fewer", x.pair(1, 0, 4), 0);
        due("b has fewer", x.pair(1, 0, 5), -1);
        due("of an empty a", x.pair(2, 0, 1), -1);
        due("to an empty b", x.pair(0, 2, 3), 0);
        due("to itself", x.pair(0, 0, 3), 3);
        for (int i : new int[] {-1, MIN, MAX}) {
            due("LINE " + i, x.pair(0, 1, i), -1);
        }
        x.put(0, "a\n".repeat(200));
        due("LINE 200", x.pair(0, 0, 200), 200);
        due("LINE 201", x.pair(0, 0, 201), -1);
    }

    private static void whichGoes() {
        sentence(11, "if both are there and ALIKE, they are a PAIR (on with i + 1, j + 1)");
        due("the first that is ALIKE, though a later one would do", changesOf("s\n", "y\ns\ns\n"), "0 0 0 1, 1 0 2 1");
        due("likewise in a", changesOf("s\ns\n", "s\n"), "1 1 1 0");
        sentence(11, "else, if a's i is there, and b's j isn't or L(i + 1, j) is not less than L(i, j + 1), a's i GOES");
        due("as many either way", changesOf("p\nq\n", "q\np\n"), "0 1 0 0, 2 0 1 1");
        due("one less behind a's i", changesOf("p\nq\nr\n", "x\np\nq\n"), "0 0 0 1, 2 1 3 0");
        due("one more behind a's i", changesOf("x\np\nq\n", "p\nq\nr\n"), "0 1 0 0, 3 0 2 1");
        due("none either way", changesOf("p\n", "q\n"), "0 1 0 1");
        due("b's j isn't there", changesOf("p\nq\n", "p\n"), "1 1 1 0");
        due("b has none at all", changesOf("p\nq\n", ""), "0 2 0 0");
        sentence(11, "else b's j COMES (on with j + 1), as long as there are any");
        due("a's i isn't there", changesOf("p\n", "p\nq\nr\n"), "1 0 1 2");
        due("a has none at all", changesOf("", "p\nq\n"), "0 0 0 2");
        due("neither has any", changesOf("", ""), "");
    }

    private static void textsThatChanged() {
        sentence(10, "L(1, 1) of two TEXTS");
        Bench x = new Bench();
        x.put(0, "=\n".repeat(200));
        x.put(1, "=\n".repeat(200));
        x.put(2, "=\n=\n");
        due("200 LINES", x.common(0, 1), 200);
        due("2 LINES behind that", x.common(2, 2), 2);
        x.put(0, "=\n=\n");
        due("2 to 200", x.common(0, 1), 2);
        x.put(1, "=\n");
        due("2 to 1", x.common(0, 1), 1);
        due("CHANGES of 2 to 1", changesOf(x), "1 1 1 0");
        due("itself, of 2", x.common(0, 0), 2);
        due("1 to 2", x.common(1, 0), 1);
        sentence(14, "OUT is the SCRIPT of a to b in a form");
        x.write(0, 1, NORMAL, 0);
        due("2 to 1", x.outOf(), "2d1\n< =\n");
        x.keep(0);
        x.write(0, 1, NORMAL, 0);
        due("a by keep()", x.outOf(), "1,2c1\n< 2d1\n< < =\n---\n> =\n");
        x.tape("1c\nx\n.\n");
        x.apply(1, ED, 0, 1);
        x.write(0, 1, NORMAL, 0);
        due("b by apply()", x.outOf(), "1,2c1\n< 2d1\n< < =\n---\n> x\n");
        for (int form = 0; form < 3; form++) {
            x.write(0, 1, NORMAL, 0);
            due("no CHANGE behind a longer one, form " + form, x.write(1, 1, form, 0), 0);
            due("no BYTE of it, form " + form, x.out(0), -1);
        }
    }

    /** Of each CHANGE what change() tells. */
    private static String changesOf(String a, String b) {
        Bench x = new Bench();
        x.put(0, a);
        x.put(1, b);
        return changesOf(x);
    }

    private static String changesOf(Bench x) {
        StringBuilder s = new StringBuilder();
        for (int k = 0; k < x.changes(0, 1); k++) {
            s.append(k == 0 ? "" : ", ");
            for (int what = 0; what < 4; what++) {
                s.append(what == 0 ? "" : " ").append(x.change(0, 1, k, what));
            }
        }
        return s.toString();
    }

    private static void changes() {
        sentence(12, "A CHANGE is a row of LINES that GO or COME with no PAIR between, as long as can be");
        due("going and coming in turns are one", changesOf("a\nb\nc\n", "x\ny\nz\n"), "0 3 0 3");
        due("one PAIR between", changesOf("a\n=\nb\n", "x\n=\ny\n"), "0 1 0 1, 2 1 2 1");
        sentence(12, "(one of both rows may be empty)");
        due("none GOES, then none COMES", changesOf("=\nb\n", "x\n=\n"), "0 0 0 1, 1 1 2 0");
        sentence(12, "CHANGES of a to b");
        due("none", changesOf("a\nb\n", "a\nb\n"), "");
        due("one of 200 LINES each", changesOf("a\n".repeat(200), "b\n".repeat(200)), "0 200 0 200");
        due("the last LINE of 200", changesOf("a\n".repeat(200), "a\n".repeat(199) + "b\n"), "199 1 199 1");
        due("the 200th LINE COMES", changesOf("a\n".repeat(199), "a\n".repeat(200)), "199 0 199 1");
    }

    /** 133 PAIRS; by turns a LINE of one TEXT alone stands ahead of them and behind the last: 200 LINES each. */
    private static Bench withMostChanges() {
        StringBuilder a = new StringBuilder();
        StringBuilder b = new StringBuilder();
        for (int n = 0; n <= 133; n++) {
            (n % 2 == 0 ? a : b).append(n % 2 == 0 ? "g\n" : "c\n");
            a.append(n < 133 ? n + "\n" : "");
            b.append(n < 133 ? n + "\n" : "");
        }
        Bench x = new Bench();
        x.put(0, a.toString());
        x.put(1, b.toString());
        due("LINES of a", x.lines(0), 200);
        due("LINES of b", x.lines(1), 200);
        return x;
    }

    private static void mostChanges() {
        sentence(12, "CHANGES of a to b");
        Bench x = withMostChanges();
        due("as many as there can be", x.changes(0, 1), 134);
        due("and back", x.changes(1, 0), 134);
        sentence(13, "Of CHANGE k (from 0 on) of a to b");
        due("the last one's LINES of a ahead", x.change(0, 1, 133, 0), 200);
        due("the last one's that GO", x.change(0, 1, 133, 1), 0);
        due("the last one's LINES of b ahead", x.change(0, 1, 133, 2), 199);
        due("the last one's that COME", x.change(0, 1, 133, 3), 1);
        due("behind the last one", x.change(0, 1, 134, 0), -1);
    }

    private static void change() {
        sentence(13, "Of CHANGE k (from 0 on) of a to b: 0 how many LINES of a are ahead of it, 1 how many GO, 2 how many LINES of b are ahead, 3 how many COME. NONE if there is none such.");
        Bench x = new Bench();
        x.put(0, "a\n=\nb\nc\n");
        x.put(1, "=\nd\n");
        int[][] due = {{0, 1, 0, 0}, {2, 2, 1, 1}};
        for (int k = 0; k < 2; k++) {
            due("change " + k + ", what -1", x.change(0, 1, k, -1), -1);
            for (int what = 0; what < 4; what++) {
                due("change " + k + ", what " + what, x.change(0, 1, k, what), due[k][what]);
            }
            due("change " + k + ", what 4", x.change(0, 1, k, 4), -1);
            due("change " + k + ", what min", x.change(0, 1, k, MIN), -1);
            due("change " + k + ", what max", x.change(0, 1, k, MAX), -1);
        }
        for (int k : new int[] {-1, 2, MIN, MAX}) {
            for (int what = 0; what < 4; what++) {
                due("change " + k + ", what " + what, x.change(0, 1, k, what), -1);
            }
        }
        due("change 0 of none", x.change(0, 0, 0, 1), -1);
    }

    private static void argumentsOfWrite() {
        sentence(14, "OUT is the SCRIPT of a to b in a form (0 NORMAL, 1 UNIFIED, 2 ED)");
        due("form 0", written("a\n", "", 0, 0), "1d0\n< a\n");
        due("form 1", written("a\n", "", 1, 0), HEAD + "@@ -1 +0,0 @@\n-a\n");
        due("form 2", written("a\n", "", 2, 0), "1d\n");
        sentence(14, "NONE, and OUT stays, if there is no such TEXT, form or n");
        for (int form : new int[] {-1, 3, MIN, MAX}) {
            refused("form " + form, busy(), b -> b.write(0, 1, form, 0));
        }
    }

    private static void linesAround() {
        sentence(14, "UNIFIED, with n LINES around (0 .. 9)");
        String nine = "1\n2\n3\n4\n5\n6\n7\n8\n9\n";
        String allNine = " " + nine.trim().replace("\n", "\n ") + "\n";
        due("0", written("0\n" + nine, "0\n" + nine + "x\n", UNIFIED, 0), HEAD + "@@ -10,0 +11 @@\n+x\n");
        due("9", written("0\n" + nine, "0\n" + nine + "x\n", UNIFIED, 9), HEAD + "@@ -2,9 +2,10 @@\n" + allNine + "+x\n");
        sentence(14, "NONE, and OUT stays, if there is no such TEXT, form or n");
        for (int n : new int[] {-1, 10, MIN, MAX}) {
            refused("n " + n, busy(), b -> b.write(0, 2, UNIFIED, n));
            sentence(14, "with n LINES around (asked of UNIFIED alone)");
            due("NORMAL, n " + n, written("a\nb\n", "a\n", NORMAL, n), "2d1\n< b\n");
            due("ED, n " + n, written("a\nb\n", "a\n", ED, n), "2d\n");
        }
    }

    private static void normalRanges() {
        sentence(14, "with none that GOES: how many LINES of a are ahead, \"a\", RANGE of b");
        due("none ahead", written("z\n", "a\nz\n", NORMAL, 0), "0a1\n> a\n");
        due("all ahead", written("z\n", "z\na\n", NORMAL, 0), "1a2\n> a\n");
        due("of an empty TEXT", written("", "a\n", NORMAL, 0), "0a1\n> a\n");
        sentence(14, "with none that COMES: RANGE of a, \"d\", how many LINES of b are ahead");
        due("none ahead", written("a\nz\n", "z\n", NORMAL, 0), "1d0\n< a\n");
        due("all ahead", written("z\na\n", "z\n", NORMAL, 0), "2d1\n< a\n");
        due("to an empty TEXT", written("a\n", "", NORMAL, 0), "1d0\n< a\n");
        sentence(14, "RANGE: the first one's number; if there are more, \",\" and the last one's.");
        due("one", written("a\n", "b\n", NORMAL, 0), "1c1\n< a\n---\n> b\n");
        due("two of a", written("a\nb\n", "c\n", NORMAL, 0), "1,2c1\n< a\n< b\n---\n> c\n");
        due("two of b", written("c\n", "a\nb\n", NORMAL, 0), "1c1,2\n< c\n---\n> a\n> b\n");
        due("two COME", written("=\n", "=\na\nb\n", NORMAL, 0), "1a2,3\n> a\n> b\n");
        due("two GO", written("=\na\nb\n", "=\n", NORMAL, 0), "2,3d1\n< a\n< b\n");
        sentence(14, "NORMAL: for each CHANGE a command");
        due("none", written("a\n", "a\n", NORMAL, 0), "");
        due("of two empty TEXTS", written("", "", NORMAL, 0), "");
        String nine = "=\n".repeat(9);
        due("the 9th", written(nine.substring(2), nine.substring(2) + "a\n", NORMAL, 0), "8a9\n> a\n");
        due("the 10th", written(nine, nine + "a\n", NORMAL, 0), "9a10\n> a\n");
        due("the 99th and 100th", written("=\n".repeat(98), "=\n".repeat(98) + "a\nb\n", NORMAL, 0), "98a99,100\n> a\n> b\n");
        due("the 200th", written("=\n".repeat(200), "=\n".repeat(199), NORMAL, 0), "200d199\n< =\n");
    }

    private static void unifiedNothing() {
        sentence(14, "nothing for no CHANGE; else lines \"--- a\" and \"+++ b\", and HUNKS");
        due("no CHANGE", written("a\n", "a\n", UNIFIED, 3), "");
        due("of two empty TEXTS", written("", "", UNIFIED, 0), "");
        due("one CHANGE", written("a\n", "a", UNIFIED, 0), HEAD + "@@ -1 +1 @@\n-a\n+a\n" + MARK);
        Bench x = busy();
        due("no CHANGE: OUT becomes nothing", x.write(3, 3, UNIFIED, 0), 0);
        due("no CHANGE: OUT becomes nothing", x.out(0), -1);
    }

    private static void pairsBetweenChanges() {
        sentence(14, "CHANGES with at most 2 n PAIRS between them are in one.");
        for (int n = 0; n <= 9; n++) {
            if (n > 0) {
                due("2 n, n is " + n, heads("-\n" + "=\n".repeat(2 * n) + "-\n", "=\n".repeat(2 * n), n), 1);
            }
            due("2 n + 1, n is " + n, heads("-\n" + "=\n".repeat(2 * n + 1) + "-\n", "=\n".repeat(2 * n + 1), n), 2);
        }
        due("three, each 2 n from the next", heads("-\n=\n=\n-\n=\n=\n-\n", "=\n=\n=\n=\n", 1), 1);
        due("three, the last one 2 n + 1 behind", heads("-\n=\n=\n-\n=\n=\n=\n-\n", "=\n=\n=\n=\n=\n", 1), 2);
        due("three, the first one 2 n + 1 ahead", heads("-\n=\n=\n=\n-\n=\n=\n-\n", "=\n=\n=\n=\n=\n", 1), 2);
    }

    /** How many HUNKS there are. */
    private static int heads(String a, String b, int n) {
        return written(a, b, UNIFIED, n).split("\n@@ -").length - 1;
    }

    private static void linesAheadAndBehind() {
        sentence(14, "A HUNK has the LINES from n ahead of its first CHANGE to n behind its last one (as many as there are)");
        due("one less than n", written("1\n-\n2\n", "1\n2\n", UNIFIED, 2), HEAD + "@@ -1,3 +1,2 @@\n 1\n--\n 2\n");
        due("just n", written("1\n-\n2\n", "1\n2\n", UNIFIED, 1), HEAD + "@@ -1,3 +1,2 @@\n 1\n--\n 2\n");
        due("one more than n", written("0\n1\n-\n2\n3\n", "0\n1\n2\n3\n", UNIFIED, 1), HEAD + "@@ -2,3 +2,2 @@\n 1\n--\n 2\n");
        due("none ahead", written("-\n2\n", "2\n", UNIFIED, 1), HEAD + "@@ -1,2 +1 @@\n--\n 2\n");
        due("none behind", written("1\n-\n", "1\n", UNIFIED, 1), HEAD + "@@ -1,2 +1 @@\n 1\n--\n");
        due("two HUNKS, a PAIR in none of both", written("-\n1\n2\n3\n-\n", "1\n2\n3\n", UNIFIED, 1),
            HEAD + "@@ -1,2 +1 @@\n--\n 1\n@@ -4,2 +3 @@\n 3\n--\n");
    }

    private static void unifiedRanges() {
        sentence(14, "RANGE here: the first one's number, and, if there isn't just one, \",\" and how many");
        due("one", written("a\n", "b\n", UNIFIED, 0), HEAD + "@@ -1 +1 @@\n-a\n+b\n");
        due("two of a", written("a\nb\n", "c\n", UNIFIED, 0), HEAD + "@@ -1,2 +1 @@\n-a\n-b\n+c\n");
        due("two of b", written("c\n", "a\nb\n", UNIFIED, 0), HEAD + "@@ -1 +1,2 @@\n-c\n+a\n+b\n");
        sentence(14, "of none: how many LINES are ahead, \",0\"");
        due("none of a, none ahead", written("z\n", "a\nz\n", UNIFIED, 0), HEAD + "@@ -0,0 +1 @@\n+a\n");
        due("none of a, one ahead", written("z\n", "z\na\n", UNIFIED, 0), HEAD + "@@ -1,0 +2 @@\n+a\n");
        due("none of a at all", written("", "a\n", UNIFIED, 9), HEAD + "@@ -0,0 +1 @@\n+a\n");
        due("none of b, none ahead", written("a\nz\n", "z\n", UNIFIED, 0), HEAD + "@@ -1 +0,0 @@\n-a\n");
        due("none of b, one ahead", written("z\na\n", "z\n", UNIFIED, 0), HEAD + "@@ -2 +1,0 @@\n-a\n");
        due("none of b at all", written("a\n", "", UNIFIED, 9), HEAD + "@@ -1 +0,0 @@\n-a\n");
        due("200 of both", written("a\n".repeat(200), "b\n".repeat(200), UNIFIED, 0),
            HEAD + "@@ -1,200 +1,200 @@\n" + "-a\n".repeat(200) + "+b\n".repeat(200));
    }

    private static void unifiedOrder() {
        sentence(14, "(of a CHANGE first all that GO)");
        due("of a CHANGE", written("1\n2\n=\n", "3\n4\n=\n", UNIFIED, 1), HEAD + "@@ -1,3 +1,3 @@\n-1\n-2\n+3\n+4\n =\n");
        due("of each CHANGE", written("1\n=\n2\n", "3\n=\n4\n", UNIFIED, 1), HEAD + "@@ -1,3 +1,3 @@\n-1\n+3\n =\n-2\n+4\n");
    }

    private static void edCommands() {
        sentence(14, "ED: the CHANGES from the last one on");
        due("none", written("a\n", "a\n", ED, 0), "");
        due("of two empty TEXTS", written("", "", ED, 0), "");
        due("three", written("1\n=\n2\n_\n", "=\n3\n_\n4\n", ED, 0), "4a\n4\n.\n3c\n3\n.\n1d\n");
        sentence(14, "how many LINES of a are ahead and \"a\"");
        due("none ahead", written("z\n", "a\nz\n", ED, 0), "0a\na\n.\n");
        due("all ahead", written("z\n", "z\na\n", ED, 0), "1a\na\n.\n");
        sentence(14, "RANGE of a and \"d\"; or RANGE of a and \"c\"");
        due("one GOES", written("a\n", "", ED, 0), "1d\n");
        due("two GO", written("a\nb\n", "", ED, 0), "1,2d\n");
        due("one for one", written("a\n", "b\n", ED, 0), "1c\nb\n.\n");
        due("two for one", written("a\nb\n", "c\n", ED, 0), "1,2c\nc\n.\n");
    }

    private static void edThatCantBe() {
        sentence(14, "It can't be, if a LINE that COMES is \".\" with a 10, or one of both TEXTS ends with an OPEN one.");
        cantBeEd("a dot COMES", "", ".\n");
        cantBeEd("the first of two that COME is a dot", "=\n", "=\n.\nx\n");
        cantBeEd("the last of two that COME is a dot", "=\n", "x\n.\n=\n");
        cantBeEd("a dot COMES in the first CHANGE of two", "=\n", ".\n=\nx\n");
        cantBeEd("a dot COMES in the last CHANGE of two", "=\n", "x\n=\n.\n");
        cantBeEd("a dot for a LINE", "x\n", ".\n");
        cantBeEd("a is OPEN", "a", "a\n");
        cantBeEd("b is OPEN", "a\n", "a");
        cantBeEd("both are OPEN and ALIKE", "a", "a");
        cantBeEd("b is an OPEN dot", "", ".");
        cantBeEd("a is OPEN, b is empty", "a", "");
        cantBeEd("a is OPEN at its last LINE", "a\nb", "");
        due("a dot that is a PAIR", written(".\na\n", ".\n", ED, 0), "2d\n");
        due("a dot that is a PAIR behind a LINE that COMES", written(".\n", "x\n.\n", ED, 0), "0a\nx\n.\n");
        due("a dot that is a PAIR ahead of a LINE that COMES", written(".\n", ".\nx\n", ED, 0), "1a\nx\n.\n");
        due("a dot that GOES", written(".\n", "", ED, 0), "1d\n");
        due("two dots", written("", "..\n", ED, 0), "0a\n..\n.\n");
        due("a dot and a blank", written("", ". \n", ED, 0), "0a\n. \n.\n");
        due("a blank and a dot", written("", " .\n", ED, 0), "0a\n .\n.\n");
        due("no dot", written("", "\n", ED, 0), "0a\n\n.\n");
        due("one BYTE that is no dot", written("", "/\n", ED, 0), "0a\n/\n.\n");
        Bench x = new Bench();
        x.put(1, "x\n");
        x.put(2, ".\n");
        due("a LINE that COMES", x.write(0, 1, ED, 0), 7);
        due("then a dot without any CHANGE", x.write(2, 2, ED, 0), 0);
    }

    private static void cantBeEd(String what, String a, String b) {
        Bench x = busy();
        x.put(0, a);
        x.put(7, b);
        refused(what, x, y -> y.write(0, 7, ED, 0));
        due(what + ", NORMAL", x.write(0, 7, NORMAL, 0) >= 0, true);
    }

    private static void openLines() {
        sentence(14, "An OPEN LINE is written with a 10 behind it, and MARK behind that, with its 10.");
        due("that GOES", written("a", "", NORMAL, 0), "1d0\n< a\n" + MARK);
        due("that COMES", written("", "a", NORMAL, 0), "0a1\n> a\n" + MARK);
        due("both", written("a", "b", NORMAL, 0), "1c1\n< a\n" + MARK + "---\n> b\n" + MARK);
        due("the last of two alone", written("", "a\nb", NORMAL, 0), "0a1,2\n> a\n> b\n" + MARK);
        due("UNIFIED, both", written("a", "b", UNIFIED, 0), HEAD + "@@ -1 +1 @@\n-a\n" + MARK + "+b\n" + MARK);
        due("UNIFIED, a PAIR", written("a\nb", "b", UNIFIED, 1), HEAD + "@@ -1,2 +1 @@\n-a\n b\n" + MARK);
        due("UNIFIED, a PAIR that is not in it", written("a\nb", "b", UNIFIED, 0), HEAD + "@@ -1 +0,0 @@\n-a\n");
        due("UNIFIED, a GOES OPEN, and comes with a 10", written("a", "a\nb\n", UNIFIED, 0),
            HEAD + "@@ -1 +1,2 @@\n-a\n" + MARK + "+a\n+b\n");
    }

    private static void longestScripts() {
        sentence(14, "OUT at most 20000");
        Bench x = withMostChanges();
        StringBuilder normal = new StringBuilder();
        StringBuilder unified = new StringBuilder(HEAD);
        for (int n = 0, a = 0, b = 0; n <= 133; n++) {
            boolean goes = n % 2 == 0;
            normal.append(goes ? a + 1 + "d" + b : a + "a" + (b + 1)).append(goes ? "\n< g\n" : "\n> c\n");
            unified.append("@@ -").append(goes ? a + 1 + " +" + b + ",0" : a + ",0 +" + (b + 1)).append(" @@\n").append(goes ? "-g\n" : "+c\n");
            a += goes ? 2 : 1;
            b += goes ? 1 : 2;
        }
        due("the most CHANGES, NORMAL", x.write(0, 1, NORMAL, 0), normal.length());
        due("the most CHANGES, NORMAL", x.outOf(), normal.toString());
        due("the most CHANGES, UNIFIED", x.write(0, 1, UNIFIED, 0), unified.length());
        due("the most CHANGES, UNIFIED", x.outOf(), unified.toString());
        String a = "a".repeat(9) + "\n";
        String b = "b".repeat(9) + "\n";
        due("the most BYTES, NORMAL", written(a.repeat(200), b.repeat(200), NORMAL, 0),
            "1,200c1,200\n" + ("< " + a).repeat(200) + "---\n" + ("> " + b).repeat(200));
        due("the most BYTES, ED", written(a.repeat(200), b.repeat(200), ED, 0), "1,200c\n" + b.repeat(200) + ".\n");
    }
}
