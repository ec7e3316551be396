/** The boundary cases of joining, section 5 of the terms: promise 20. */
public final class JoinBoundaries extends Samples {
    public static void main(String[] args) {
        arguments();
        anchors();
        parts();
        asMany();
        clashes();
        openLines();
        longTexts();
        finish();
    }

    private static void arguments() {
        sentence(20, "NONE, and OUT stays, if there is no such TEXT.");
        for (int t : NO_TEXTS) {
            refused("o " + t, busy(), b -> b.join(t, 0, 0));
            refused("a " + t, busy(), b -> b.join(0, t, 0));
            refused("b " + t, busy(), b -> b.join(0, 0, t));
        }
        sentence(20, "OUT is a and b, heirs of o, JOINED: how many CLASHES.");
        Bench x = busy();
        x.put(0, "1\n2\n");
        x.put(7, "1\nx\n");
        x.put(4, "0\n2\n");
        String tape = x.tapeOf();
        String state = x.state();
        due("o 0, b 7", x.join(0, 0, 7), 0);
        due("OUT", x.outOf(), "1\nx\n");
        due("o 0, a 7", x.join(0, 7, 0), 0);
        due("OUT", x.outOf(), "1\nx\n");
        due("o 7, a and b 0", x.join(7, 0, 0), 0);
        due("OUT", x.outOf(), "1\n2\n");
        due("all three 7", x.join(7, 7, 7), 0);
        due("OUT", x.outOf(), "1\nx\n");
        due("the TAPE", x.tapeOf(), tape);
        due("TEXTS", x.state().substring(0, x.state().indexOf("TAPE")), state.substring(0, state.indexOf("TAPE")));
        due("fault()", x.faults(), "1 3");
    }

    private static void anchors() {
        sentence(20, "LINES of o that are PAIRS both in the SCRIPT of o to a and in that of o to b are ANCHORS.");
        due("in both", joined("=\n", "x\n=\n", "=\ny\n"), "0: x\n=\ny\n");
        due("in a alone", joined("=\n", "x\n=\n", "y\n"), "1: <<<<<<<\nx\n=\n=======\ny\n>>>>>>>\n");
        due("in b alone", joined("=\n", "x\n", "=\ny\n"), "1: <<<<<<<\nx\n=======\n=\ny\n>>>>>>>\n");
        due("in none", joined("=\n", "x\n", "y\n"), "1: <<<<<<<\nx\n=======\ny\n>>>>>>>\n");
        due("PAIRS at other numbers", joined("1\n2\n3\n", "0\n1\n2\n3\n", "2\n3\n4\n"), "1: <<<<<<<\n0\n1\n=======\n>>>>>>>\n2\n3\n4\n");
        due("PAIRS by the SCRIPT, not LINES that are ALIKE", joined("p\nq\n", "q\np\n", "p\nq\n"), "0: q\np\n");
    }

    private static void parts() {
        sentence(20, "What lies ahead of the first one, between two, behind the last one is a PART of each TEXT");
        String o = "1\n=\n2\n_\n3\n";
        due("a's ahead of the first", joined(o, "x\n=\n2\n_\n3\n", o), "0: x\n=\n2\n_\n3\n");
        due("a's between two", joined(o, "1\n=\nx\n_\n3\n", o), "0: 1\n=\nx\n_\n3\n");
        due("a's behind the last", joined(o, "1\n=\n2\n_\nx\n", o), "0: 1\n=\n2\n_\nx\n");
        due("b's ahead of the first", joined(o, o, "x\n=\n2\n_\n3\n"), "0: x\n=\n2\n_\n3\n");
        due("b's between two", joined(o, o, "1\n=\nx\n_\n3\n"), "0: 1\n=\nx\n_\n3\n");
        due("b's behind the last", joined(o, o, "1\n=\n2\n_\nx\n"), "0: 1\n=\n2\n_\nx\n");
        due("CLASHES in all", joined(o, "a\n=\nb\n_\nc\n", "d\n=\ne\n_\nf\n"),
            "3: <<<<<<<\na\n=======\nd\n>>>>>>>\n=\n<<<<<<<\nb\n=======\ne\n>>>>>>>\n_\n<<<<<<<\nc\n=======\nf\n>>>>>>>\n");
        due("empty ones of o", joined("=\n_\n", "a\n=\nb\n_\nc\n", "=\n_\n"), "0: a\n=\nb\n_\nc\n");
        due("empty ones of a", joined(o, "=\n_\n", o), "0: =\n_\n");
        due("empty ones of b", joined(o, o, "=\n_\n"), "0: =\n_\n");
        due("empty ones of all", joined("=\n_\n", "=\n_\n", "=\n_\n"), "0: =\n_\n");
        due("no ANCHOR, one PART", joined("1\n", "", "1\n"), "0: ");
        due("no LINE at all", joined("", "", ""), "0: ");
    }

    private static void asMany() {
        sentence(20, "if o's is ALIKE a's (LINE by LINE, as many), b's");
        due("as many", joined("1\n2\n", "1\n2\n", "x\n"), "0: x\n");
        due("a has one less", joined("1\n2\n", "1\n", "x\n"), "1: <<<<<<<\n1\n=======\nx\n>>>>>>>\n");
        due("a has one more", joined("1\n", "1\n2\n", "x\n"), "1: <<<<<<<\n1\n2\n=======\nx\n>>>>>>>\n");
        due("a's OPEN", joined("1\n", "1", "x\n"), "1: <<<<<<<\n1\n=======\nx\n>>>>>>>\n");
        sentence(20, "else if o's is ALIKE b's, or a's ALIKE b's, a's");
        due("o's ALIKE b's", joined("1\n2\n", "x\n", "1\n2\n"), "0: x\n");
        due("b has one less than o", joined("1\n2\n", "x\n", "1\n"), "1: <<<<<<<\nx\n=======\n1\n>>>>>>>\n");
        due("b has one more than o", joined("1\n", "x\n", "1\n2\n"), "1: <<<<<<<\nx\n=======\n1\n2\n>>>>>>>\n");
        due("a's ALIKE b's", joined("1\n", "x\ny\n", "x\ny\n"), "0: x\ny\n");
        due("a has one less than b", joined("1\n", "x\n", "x\ny\n"), "1: <<<<<<<\nx\n=======\nx\ny\n>>>>>>>\n");
        due("a has one more than b", joined("1\n", "x\ny\n", "x\n"), "1: <<<<<<<\nx\ny\n=======\nx\n>>>>>>>\n");
        due("a OPEN, b not", joined("1\n", "x", "x\n"), "1: <<<<<<<\nx\n=======\nx\n>>>>>>>\n");
        due("both GO", joined("1\n", "", ""), "0: ");
        due("a's last LINE is another", joined("1\n", "x\ny\n", "x\nz\n"), "1: <<<<<<<\nx\ny\n=======\nx\nz\n>>>>>>>\n");
    }

    private static void clashes() {
        sentence(20, "else a CLASH: a line \"<<<<<<<\", a's, \"=======\", b's, \">>>>>>>\"");
        due("a's is empty", joined("1\n", "", "y\n"), "1: <<<<<<<\n=======\ny\n>>>>>>>\n");
        due("b's is empty", joined("1\n", "x\n", ""), "1: <<<<<<<\nx\n=======\n>>>>>>>\n");
        due("o's is empty", joined("", "x\n", "y\n"), "1: <<<<<<<\nx\n=======\ny\n>>>>>>>\n");
        due("two LINES each", joined("", "p\nq\n", "r\ns\n"), "1: <<<<<<<\np\nq\n=======\nr\ns\n>>>>>>>\n");
        due("such lines in the TEXTS", joined("", "<<<<<<<\n", "=======\n"), "1: <<<<<<<\n<<<<<<<\n=======\n=======\n>>>>>>>\n");
        due("right ahead of an ANCHOR", joined("1\n=\n", "x\n=\n", "y\n=\n"), "1: <<<<<<<\nx\n=======\ny\n>>>>>>>\n=\n");
    }

    private static void openLines() {
        sentence(20, "(each with a 10; OPEN LINES get one, too)");
        due("a's", joined("", "x", "y\n"), "1: <<<<<<<\nx\n=======\ny\n>>>>>>>\n");
        due("b's", joined("", "x\n", "y"), "1: <<<<<<<\nx\n=======\ny\n>>>>>>>\n");
        due("both", joined("1", "x", "y"), "1: <<<<<<<\nx\n=======\ny\n>>>>>>>\n");
        due("ALIKE but for the 10", joined("1\n", "x", "x\n"), "1: <<<<<<<\nx\n=======\nx\n>>>>>>>\n");
        due("a's is empty, b's OPEN", joined("1\n", "", "y"), "1: <<<<<<<\n=======\ny\n>>>>>>>\n");
        due("a's OPEN, b's is empty", joined("1\n", "x", ""), "1: <<<<<<<\nx\n=======\n>>>>>>>\n");
        sentence(20, "ANCHORS stand between PARTS. An OPEN LINE that isn't the last of all gets a 10.");
        due("an OPEN ANCHOR is the last of all", joined("1\n=", "x\n=", "1\n="), "0: x\n=");
        due("an OPEN LINE of a is the last of all", joined("1\n2\n", "1\nx", "1\n2\n"), "0: 1\nx");
        due("an OPEN LINE of b is the last of all", joined("1\n2\n", "1\n2\n", "1\nx"), "0: 1\nx");
        due("an OPEN LINE of both is the last of all", joined("1\n2\n", "1\nx", "1\nx"), "0: 1\nx");
        due("a LINE with a 10 for an OPEN one", joined("1\n2", "1\n2\n", "1\n2"), "0: 1\n2\n");
    }

    private static void longTexts() {
        sentence(20, "OUT is a and b, heirs of o, JOINED: how many CLASHES.");
        Bench x = new Bench();
        manyClashes(x, 6200);
        due("a hundred CLASHES", x.outOf(), ("=\n<<<<<<<\n" + "a".repeat(17) + "\n=======\n" + "b".repeat(17) + "\n>>>>>>>\n").repeat(100));
        x = new Bench();
        x.put(0, "\n".repeat(200));
        x.put(1, block('a', 2000, 1));
        x.put(2, block('b', 2000, 1));
        due("2000 BYTES each", x.join(0, 1, 2), 1);
        due("2000 BYTES each", x.outOf(), "<<<<<<<\n" + block('a', 2000, 1) + "=======\n" + block('b', 2000, 1) + ">>>>>>>\n");
        x = new Bench();
        x.put(0, "=\n".repeat(200));
        due("200 ANCHORS", x.join(0, 0, 0), 0);
        due("200 ANCHORS", x.outOf(), "=\n".repeat(200));
        x.put(1, "a\n");
        x.put(2, "b\n");
        x.put(3, "1\n");
        for (int n = 0; n < 2; n++) {
            due("a CLASH, again and again", x.join(3, 1, 2), 1);
            due("a CLASH, again and again", x.outOf(), "<<<<<<<\na\n=======\nb\n>>>>>>>\n");
        }
        x.join(0, 0, 0);
        due("o's ALIKE a's, behind 200 ANCHORS", x.join(3, 3, 2), 0);
        due("o's ALIKE a's, behind 200 ANCHORS", x.outOf(), "b\n");
        x.join(0, 0, 0);
        due("o's ALIKE b's, behind 200 ANCHORS", x.join(3, 1, 3), 0);
        due("o's ALIKE b's, behind 200 ANCHORS", x.outOf(), "a\n");
    }
}
