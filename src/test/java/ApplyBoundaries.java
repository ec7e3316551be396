/** The boundary cases of applying and turning round, section 4 of the terms: promises 16, 17 and 19. */
public final class ApplyBoundaries extends Samples {
    public static void main(String[] args) {
        arguments();
        whichReasonFirst();
        textsAndTape();
        normalFits();
        edFits();
        openLinesThatCome();
        tooManyBytes();
        tooManyLines();
        manyCommands();
        fuzzUpTo();
        fuzzAtBegin();
        fuzzAtEnd();
        fuzzAtBoth();
        fuzzFirstDistanceThen();
        toldAndExpected();
        distances();
        endOfLatest();
        endOfLatestWithFuzz();
        noOldLines();
        rejected();
        placesOfHunks();
        openLinesInHunks();
        hunk();
        mostHunks();
        turnArguments();
        turnNormal();
        turnUnified();
        finish();
    }

    private static void arguments() {
        sentence(16, "NONE if there is no such TEXT, form, f (fault() tells 0 then)");
        for (int t : NO_TEXTS) {
            for (int form = 0; form < 3; form++) {
                int inForm = form;
                refusedWith("0 0", "from TEXT " + t, busy(), b -> b.apply(t, inForm, 0, 0));
                refusedWith("0 0", "to TEXT " + t, busy(), b -> b.apply(0, inForm, 0, t));
            }
        }
        for (int form : new int[] {-1, 3, MIN, MAX}) {
            refusedWith("0 0", "form " + form, busy(), b -> b.apply(0, form, 0, 1));
        }
        sentence(16, "UNIFIED with FUZZ up to f (0 .. 3; of others it doesn't matter)");
        for (int f : new int[] {-1, 4, MIN, MAX}) {
            refusedWith("0 0", "f " + f, busy(), b -> b.apply(0, UNIFIED, f, 1));
            Bench x = busy();
            x.tape("");
            due("NORMAL, f " + f, x.apply(0, NORMAL, f, 1), 0);
            due("ED, f " + f, x.apply(0, ED, f, 1), 0);
            refusedWith("0 0", "f " + f + " of an empty TAPE", x, b -> b.apply(0, UNIFIED, f, 1));
        }
        for (int f = 0; f <= 3; f++) {
            Bench x = busy();
            x.tape("");
            due("UNIFIED, f " + f, x.apply(0, UNIFIED, f, 7), 0);
            due("TEXT 7", x.textOf(7), x.textOf(0));
        }
    }

    private static void whichReasonFirst() {
        sentence(16, "it isn't WELL FORMED (1), it doesn't FIT (2), or TEXT u would be too long (3)");
        Bench x = new Bench();
        x.put(0, "\n".repeat(200));
        x.put(1, "as it was");
        x.tape("0a1\n> x\n9d9\n< x\nx\n");
        refusedWith("0 0", "no TEXT, and not WELL FORMED", x, b -> b.apply(0, NORMAL, 0, 8));
        refusedWith("1 5", "not WELL FORMED, doesn't FIT, too long", x, b -> b.apply(0, NORMAL, 0, 1));
        x.end(16);
        refusedWith("2 0", "doesn't FIT, too long", x, b -> b.apply(0, NORMAL, 0, 1));
        x.end(8);
        refusedWith("3 0", "too long", x, b -> b.apply(0, NORMAL, 0, 1));
        x.tape("201a\nx\n.\n0a\nx\n.\n");
        refusedWith("2 0", "ED doesn't FIT, too long", x, b -> b.apply(0, ED, 0, 1));
        x.tape("200a\nx\n.\n0a\nx\n.\n");
        refusedWith("3 0", "ED too long", x, b -> b.apply(0, ED, 0, 1));
    }

    private static void textsAndTape() {
        sentence(16, "The script on the TAPE (which stays), in a form, is applied to TEXT t");
        sentence(16, "TEXT u becomes what comes");
        String[] scripts = {"1c1\n< a\n---\n> b\n", NAMES + "@@ -1 +1 @@\n-a\n+b\n", "1c\nb\n.\n"};
        for (int form = 0; form < 3; form++) {
            Bench x = busy();
            x.put(0, "a\nz\n");
            x.tape(scripts[form]);
            String out = x.outOf();
            due("from 0 to 7", x.apply(0, form, 0, 7), 0);
            due("TEXT 7", x.textOf(7), "b\nz\n");
            due("TEXT 0", x.textOf(0), "a\nz\n");
            due("the TAPE", x.tapeOf(), scripts[form]);
            due("OUT", x.outOf(), out);
            x.apply(0, form, 0, 0);
            due("from 0 to itself", x.textOf(0), "b\nz\n");
            due("an empty TAPE", x.end(0), true);
            due("an empty TAPE", x.apply(7, form, 0, 1), 0);
            due("an empty TAPE", x.textOf(1), "b\nz\n");
            due("an empty TEXT", x.put(2, ""), 0);
            due("an empty TEXT", x.apply(2, form, 0, 1), 0);
            due("an empty TEXT", x.size(1), 0);
        }
    }

    private static void normalFits() {
        sentence(16, "NORMAL: each LINE of a must be ALIKE that of the TEXT with its number");
        due("the first", applied("a\nb\n", "1d0\n< a\n", NORMAL), "b\n");
        due("the last", applied("a\nb\n", "2d1\n< b\n", NORMAL), "a\n");
        due("behind the last", applied("a\nb\n", "3d2\n< b\n", NORMAL), "fault 2 0");
        due("all", applied("a\nb\n", "1,2d0\n< a\n< b\n", NORMAL), "");
        due("one more than all", applied("a\nb\n", "1,3d0\n< a\n< b\n< c\n", NORMAL), "fault 2 0");
        due("the first of two is another", applied("a\nb\n", "1,2d0\n< x\n< b\n", NORMAL), "fault 2 0");
        due("the last of two is another", applied("a\nb\n", "1,2d0\n< a\n< x\n", NORMAL), "fault 2 0");
        due("that of \"c\" is another", applied("a\nb\n", "2c2\n< x\n---\n> y\n", NORMAL), "fault 2 0");
        due("ALIKE, but with another number", applied("a\nb\n", "1d0\n< b\n", NORMAL), "fault 2 0");
        due("the second command doesn't FIT", applied("a\nb\n", "1d0\n< a\n2d0\n< x\n", NORMAL), "fault 2 0");
        due("OPEN in the TEXT alone", applied("a\nb", "2d1\n< b\n", NORMAL), "fault 2 0");
        due("OPEN in the script alone", applied("a\nb\n", "2d1\n< b\n" + MARK, NORMAL), "fault 2 0");
        due("OPEN in both", applied("a\nb", "2d1\n< b\n" + MARK, NORMAL), "a\n");
        due("of an empty TEXT", applied("", "1d0\n< a\n", NORMAL), "fault 2 0");
        sentence(16, "\"a\" at most behind the last LINE");
        due("ahead of the first", applied("a\nb\n", "0a1\n> x\n", NORMAL), "x\na\nb\n");
        due("behind the last", applied("a\nb\n", "2a3\n> x\n", NORMAL), "a\nb\nx\n");
        due("one further", applied("a\nb\n", "3a4\n> x\n", NORMAL), "fault 2 0");
        due("in an empty TEXT", applied("", "0a1\n> x\n", NORMAL), "x\n");
        due("one further in an empty TEXT", applied("", "1a2\n> x\n", NORMAL), "fault 2 0");
        due("behind all LINES that GO", applied("a\nb\n", "1,2d0\n< a\n< b\n2a1\n> x\n", NORMAL), "x\n");
    }

    private static void edFits() {
        sentence(16, "ED: the numbers must be there.");
        due("the last GOES", applied("a\nb\n", "2d\n", ED), "a\n");
        due("behind the last", applied("a\nb\n", "3d\n", ED), "fault 2 0");
        due("all GO", applied("a\nb\n", "1,2d\n", ED), "");
        due("one more than all", applied("a\nb\n", "1,3d\n", ED), "fault 2 0");
        due("the last for another", applied("a\nb\n", "2c\nx\n.\n", ED), "a\nx\n");
        due("behind the last for another", applied("a\nb\n", "3c\nx\n.\n", ED), "fault 2 0");
        due("\"a\" behind the last", applied("a\nb\n", "2a\nx\n.\n", ED), "a\nb\nx\n");
        due("\"a\" one further", applied("a\nb\n", "3a\nx\n.\n", ED), "fault 2 0");
        due("\"a\" ahead of the first", applied("a\nb\n", "0a\nx\n.\n", ED), "x\na\nb\n");
        due("\"a\" in an empty TEXT", applied("", "0a\nx\n.\n", ED), "x\n");
        due("\"a\" one further in an empty TEXT", applied("", "1a\nx\n.\n", ED), "fault 2 0");
        due("the first command alone doesn't FIT", applied("a\nb\n", "3d\n1d\n", ED), "fault 2 0");
        due("an \"a\" right ahead of a \"d\"", applied("a\nb\n", "2d\n1a\nx\n.\n", ED), "a\nx\n");
    }

    private static void openLinesThatCome() {
        sentence(16, "Then the TEXT that comes has the LINES told; an OPEN one that isn't the last gets a 10.");
        due("NORMAL, the last", applied("a\n", "1a2\n> x\n" + MARK, NORMAL), "a\nx");
        due("NORMAL, ahead of the last", applied("a\n", "0a1\n> x\n" + MARK, NORMAL), "x\na\n");
        due("NORMAL, the TEXT's own, no longer the last", applied("a", "1a2\n> x\n", NORMAL), "a\nx\n");
        due("NORMAL, the TEXT's own and another", applied("a", "1a2\n> x\n" + MARK, NORMAL), "a\nx");
        due("NORMAL, the TEXT's own, still the last", applied("a", "0a1\n> x\n", NORMAL), "x\na");
        due("NORMAL, two that come", applied("a\n", "1a2\n> x\n" + MARK + "1a3\n> y\n" + MARK, NORMAL), "a\nx\ny");
        due("NORMAL, the last for an OPEN one", applied("a\nb\n", "2c2\n< b\n---\n> b\n" + MARK, NORMAL), "a\nb");
        due("NORMAL, the LINES behind it GO", applied("a\nb\n", "1c1\n< a\n---\n> x\n" + MARK + "2d1\n< b\n", NORMAL), "x");
        due("NORMAL, one with no BYTE, the last", applied("a\n", "1a2\n> \n" + MARK, NORMAL), "a\n");
        due("NORMAL, one with no BYTE, ahead of the last", applied("a\n", "0a1\n> \n" + MARK, NORMAL), "\na\n");
        due("ED, the TEXT's own, no longer the last", applied("a", "1a\nx\n.\n", ED), "a\nx\n");
        due("ED, the TEXT's own, still the last", applied("a\nb", "1d\n", ED), "b");
        due("ED, the TEXT's own GOES", applied("a\nb", "2d\n", ED), "a\n");
    }

    private static void tooManyBytes() {
        sentence(16, "or TEXT u would be too long (3)");
        String[] scripts = {"0a1\n> x\n", NAMES + "@@ -0,0 +1 @@\n+x\n", "0a\nx\n.\n"};
        for (int form = 0; form < 3; form++) {
            int inForm = form;
            Bench x = busy();
            x.put(0, block('y', 1998, 3));
            x.tape(scripts[form]);
            due("2000 BYTES", x.apply(0, form, 0, 1), 0);
            due("2000 BYTES", x.textOf(1), "x\n" + block('y', 1998, 3));
            due("2000 BYTES", x.faults(), "0 0");
            x = busy();
            x.put(0, block('y', 1999, 3));
            x.tape(scripts[form]);
            refusedWith("3 0", "2001 BYTES", x, b -> b.apply(0, inForm, 0, 1));
            refusedWith("3 0", "2001 BYTES, to itself", x, b -> b.apply(0, inForm, 0, 0));
        }
        Bench x = busy();
        x.put(0, "y".repeat(1998));
        x.tape("1a2\n> x\n" + MARK);
        due("2000 BYTES with the 10 of an OPEN LINE", x.apply(0, NORMAL, 0, 1), 0);
        due("2000 BYTES with the 10 of an OPEN LINE", x.size(1), 2000);
        x.put(0, "y".repeat(1999));
        x.tape("1a2\n> x\n" + MARK);
        refusedWith("3 0", "2001 BYTES with the 10 of an OPEN LINE", x, b -> b.apply(0, NORMAL, 0, 1));
        x = busy();
        x.put(0, "y".repeat(2000));
        x.tape("1a2\n> x\n");
        refusedWith("3 0", "a LINE behind 2000 BYTES", x, b -> b.apply(0, NORMAL, 0, 1));
        x.tape("1a2\n> \n" + MARK);
        refusedWith("3 0", "a LINE with no BYTE behind 2000", x, b -> b.apply(0, NORMAL, 0, 1));
        x.tape("");
        due("2000 BYTES alone", x.apply(0, NORMAL, 0, 1), 0);
        due("2000 BYTES alone", x.size(1), 2000);
        x = busy();
        x.tape("0a\n" + "z".repeat(5994) + "\n.\n");
        refusedWith("3 0", "a LINE as long as the TAPE takes", x, b -> b.apply(0, ED, 0, 1));
        x = busy();
        x.put(0, "y".repeat(1999) + "\n");
        x.tape("1c\n" + "z".repeat(1999) + "\n.\n");
        due("2000 BYTES for 2000", x.apply(0, ED, 0, 1), 0);
        due("2000 BYTES for 2000", x.textOf(1), "z".repeat(1999) + "\n");
    }

    private static void tooManyLines() {
        sentence(16, "or TEXT u would be too long (3)");
        String[] scripts = {"0a1\n> x\n", NAMES + "@@ -0,0 +1 @@\n+x\n", "0a\nx\n.\n"};
        for (int form = 0; form < 3; form++) {
            int inForm = form;
            Bench x = busy();
            x.put(0, "\n".repeat(198) + "y");
            x.tape(scripts[form]);
            due("200 LINES", x.apply(0, form, 0, 1), 0);
            due("200 LINES", x.textOf(1), "x\n" + "\n".repeat(198) + "y");
            x = busy();
            x.put(0, "\n".repeat(199) + "y");
            x.tape(scripts[form]);
            refusedWith("3 0", "201 LINES", x, b -> b.apply(0, inForm, 0, 1));
        }
        Bench x = busy();
        x.put(0, "\n".repeat(200));
        x.tape("0a1\n> x\n200d200\n< \n");
        due("200 LINES, after all", x.apply(0, NORMAL, 0, 1), 0);
        due("200 LINES, after all", x.lines(1), 200);
    }

    private static void manyCommands() {
        sentence(16, "Then the TEXT that comes has the LINES told");
        StringBuilder ed = new StringBuilder();
        StringBuilder normal = new StringBuilder();
        for (int n = 1; n <= 200; n++) {
            ed.insert(0, n + "c\nx\n.\n");
            normal.append(n).append("d0\n< \n");
        }
        due("ED, each of 200 LINES", applied("\n".repeat(200), ed.toString(), ED), "x\n".repeat(200));
        due("NORMAL, each of 200 LINES", applied("\n".repeat(200), normal.toString(), NORMAL), "");
        Bench x = new Bench();
        x.put(0, "a\n");
        x.tape("0a\n" + "\n".repeat(5995) + ".\n");
        for (int n = 0; n < 3; n++) {
            due("as many LINES as the TAPE takes", x.apply(0, ED, 0, 1), -1);
            due("as many LINES as the TAPE takes", x.faults(), "3 0");
        }
        x.end(4);
        x.feed(0x2E0A0000, 0, 0, 0, 0);
        x.end(6);
        due("one of them", x.apply(0, ED, 0, 1), 0);
        due("one of them", x.textOf(1), "\na\n");
    }

    private static void fuzzUpTo() {
        sentence(16, "For FUZZ 0, 1, .. to the one that is asked for");
        Bench x = new Bench();
        x.put(0, "a\nb\nc\nd\ne\nf\ng\n");
        String[] hunks = {" c\n-d\n+D\n e\n", " X\n c\n-d\n+D\n e\n f\n", " X\n X\n c\n-d\n+D\n e\n f\n g\n", " X\n X\n X\n-d\n+D\n e\n f\n g\n"};
        int[] old = {3, 5, 7, 7};
        int[] first = {3, 2, 1, 1};
        for (int least = 0; least <= 3; least++) {
            String script = NAMES + "@@ -" + first[least] + "," + old[least] + " +1," + old[least] + " @@\n" + hunks[least];
            for (int f = 0; f <= 3; f++) {
                String due = f < least ? "1: -1 0 0" : "0: " + (least == 0 ? 2 : first[least] - 1 + least) + " 0 " + least;
                due("FUZZ " + least + " of " + f, hunks(x, script, f), due);
                due("the TEXT", x.textOf(1), f < least ? "a\nb\nc\nd\ne\nf\ng\n" : "a\nb\nc\nD\ne\nf\ng\n");
            }
        }
        due("4 LINES that aren't there are too many", hunks(x, NAMES + "@@ -1,5 +1,5 @@\n X\n X\n X\n X\n-d\n+D\n", 3), "1: -1 0 0");
    }

    private static void fuzzAtBegin() {
        sentence(16, "without the first FUZZ of its LINES that are blanks at its begin (or as many as there are)");
        Bench x = new Bench();
        x.put(0, "a\nb\nc\nd\ne\n");
        due("one of two", hunks(x, NAMES + "@@ -1,3 +1,3 @@\n X\n b\n-c\n+C\n", 1), "0: 1 0 1");
        due("two of two", hunks(x, NAMES + "@@ -1,3 +1,3 @@\n X\n Y\n-c\n+C\n", 2), "0: 2 0 2");
        due("one, though two are asked for", hunks(x, NAMES + "@@ -2,3 +2,3 @@\n X\n-c\n+C\n d\n", 3), "0: 2 0 1");
        due("as many as there are, the end needs more", hunks(x, NAMES + "@@ -2,4 +2,4 @@\n X\n-c\n+C\n Y\n Z\n", 2), "0: 2 0 2");
        due("what was left out stays", x.textOf(1), "a\nb\nC\nd\ne\n");
        due("not those behind a \"-\"", hunks(x, NAMES + "@@ -1,3 +1,2 @@\n-a\n X\n-c\n+C\n", 3), "1: -1 0 0");
        due("not those behind a \"+\"", hunks(x, NAMES + "@@ -2,2 +2,3 @@\n+n\n X\n-c\n+C\n", 3), "1: -1 0 0");
    }

    private static void fuzzAtEnd() {
        sentence(16, "and the last ones likewise at its end");
        Bench x = new Bench();
        x.put(0, "a\nb\nc\nd\ne\n");
        due("one of two", hunks(x, NAMES + "@@ -3,3 +3,3 @@\n-c\n+C\n d\n X\n", 1), "0: 2 0 1");
        due("what was left out stays", x.textOf(1), "a\nb\nC\nd\ne\n");
        due("two of two", hunks(x, NAMES + "@@ -3,3 +3,3 @@\n-c\n+C\n X\n Y\n", 2), "0: 2 0 2");
        due("one of two, but not one alone", hunks(x, NAMES + "@@ -3,3 +3,3 @@\n-c\n+C\n X\n Y\n", 1), "1: -1 0 0");
        due("more than the TEXT has", hunks(x, NAMES + "@@ -5,3 +5,3 @@\n-e\n+E\n X\n Y\n", 2), "0: 4 0 2");
        due("not those ahead of a \"+\"", hunks(x, NAMES + "@@ -3,2 +3,3 @@\n-c\n+C\n X\n+n\n", 3), "1: -1 0 0");
        due("not those ahead of a \"-\"", hunks(x, NAMES + "@@ -3,3 +3 @@\n-c\n X\n-e\n", 3), "1: -1 0 0");
    }

    private static void fuzzAtBoth() {
        sentence(16, "without the first FUZZ of its LINES that are blanks at its begin (or as many as there are), and the last ones likewise at its end");
        Bench x = new Bench();
        x.put(0, "a\nb\nc\nd\ne\n");
        due("blanks alone, one of three is left", hunks(x, NAMES + "@@ -2,3 +2,3 @@\n X\n c\n Y\n", 1), "0: 2 0 1");
        due("blanks alone, none of three is left", hunks(x, NAMES + "@@ -2,3 +2,3 @@\n X\n Y\n Z\n", 2), "0: 3 0 2");
        due("blanks alone, none of two is left", hunks(x, NAMES + "@@ -2,2 +2,2 @@\n X\n Y\n", 1), "0: 2 0 1");
        due("a blank alone", hunks(x, NAMES + "@@ -2 +2 @@\n X\n", 1), "0: 2 0 1");
        due("the TEXT", x.textOf(1), "a\nb\nc\nd\ne\n");
        due("a blank alone, FUZZ 0", hunks(x, NAMES + "@@ -2 +2 @@\n X\n", 0), "1: -1 0 0");
    }

    private static void fuzzFirstDistanceThen() {
        sentence(16, "for a distance 0, 1, 2, ..: EXPECTED and the number of LINES left out at its begin, more by the distance, then less by it");
        Bench x = new Bench();
        x.put(0, "-\n-\n-\np\n-\n-\n-\n-\nq\n-\n");
        due("FUZZ 0 far away goes ahead of FUZZ 1 there", hunks(x, NAMES + "@@ -2,2 +2,2 @@\n q\n--\n+x\n", 1), "0: 8 7 0");
        due("FUZZ 1 there", hunks(x, NAMES + "@@ -2,2 +2,2 @@\n r\n--\n+x\n", 1), "0: 2 0 1");
        due("FUZZ 1 at a distance", hunks(x, NAMES + "@@ -7,2 +2,2 @@\n r\n-p\n+x\n", 1), "0: 3 -4 1");
    }

    private static void toldAndExpected() {
        sentence(16, "TOLD is the first number less 1 (of \",0\": that number)");
        Bench x = new Bench();
        x.put(0, "=\n=\n=\n=\n");
        due("1", hunks(x, NAMES + "@@ -1 +1 @@\n-=\n+x\n", 0), "0: 0 0 0");
        due("4", hunks(x, NAMES + "@@ -4 +1 @@\n-=\n+x\n", 0), "0: 3 0 0");
        due("\",0\" of 0", hunks(x, NAMES + "@@ -0,0 +1 @@\n+x\n", 0), "0: 0 0 0");
        due("\",0\" of 1", hunks(x, NAMES + "@@ -1,0 +1 @@\n+x\n", 0), "0: 1 0 0");
        due("\",0\" of 4", hunks(x, NAMES + "@@ -4,0 +1 @@\n+x\n", 0), "0: 4 0 0");
        sentence(16, "EXPECTED is TOLD and the SHIFT of the latest HUNK that was placed (0 at first)");
        x.put(0, "=\n=\np\n=\n=\n=\nq\n=\n=\n");
        due("a SHIFT of 2", hunks(x, NAMES + "@@ -1 +1 @@\n-p\n+x\n@@ -3 +1 @@\n-=\n+x\n", 0), "0: 2 2 0, 4 2 0");
        due("a SHIFT below 0", hunks(x, NAMES + "@@ -5 +1 @@\n-p\n+x\n@@ -7 +1 @@\n-=\n+x\n", 0), "0: 2 -2 0, 4 -2 0");
        due("not the sum of all", hunks(x, NAMES + "@@ -1 +1 @@\n-p\n+x\n@@ -3 +1 @@\n-q\n+x\n@@ -4 +1 @@\n-=\n+x\n", 0), "0: 2 2 0, 6 4 0, 7 4 0");
        due("not of one that was REJECTED", hunks(x, NAMES + "@@ -1 +1 @@\n-p\n+x\n@@ -2 +1 @@\n-r\n+x\n@@ -3 +1 @@\n-=\n+x\n", 0),
            "1: 2 2 0, -1 0 0, 4 2 0");
        due("a SHIFT far below 0", hunks(x, NAMES + "@@ -99998 +1 @@\n-p\n+x\n@@ -99999 +1 @@\n-=\n+x\n", 0), "0: 2 -99995 0, 3 -99995 0");
    }

    private static void distances() {
        sentence(16, "for a distance 0, 1, 2, ..: EXPECTED and the number of LINES left out at its begin, more by the distance, then less by it");
        Bench x = new Bench();
        x.put(0, "=\na\n=\nb\n=\nc\n=\n");
        due("0", hunks(x, NAMES + "@@ -3 +1 @@\n-=\n+x\n", 0), "0: 2 0 0");
        due("1 more ahead of 1 less", hunks(x, NAMES + "@@ -4 +1 @@\n-=\n+x\n", 0), "0: 4 1 0");
        due("1 less ahead of 2 more", hunks(x, NAMES + "@@ -8 +1 @@\n-=\n+x\n", 0), "0: 6 -1 0");
        due("to the last LINE", hunks(x, NAMES + "@@ -1,2 +1 @@\n-c\n-=\n+x\n", 0), "0: 5 5 0");
        due("to the first LINE", hunks(x, NAMES + "@@ -6,2 +1 @@\n-=\n-a\n+x\n", 0), "0: 0 -5 0");
        due("from far beyond the end", hunks(x, NAMES + "@@ -99999 +1 @@\n-=\n+x\n", 0), "0: 6 -99992 0");
        due("as long as the TEXT", hunks(x, NAMES + "@@ -3,7 +0,0 @@\n-=\n-a\n-=\n-b\n-=\n-c\n-=\n", 0), "0: 0 -2 0");
        due("the TEXT is empty then", x.textOf(1), "");
        due("one longer", hunks(x, NAMES + "@@ -1,8 +0,0 @@\n-=\n-a\n-=\n-b\n-=\n-c\n-=\n-=\n", 0), "1: -1 0 0");
        x.put(0, "q\n=\n=\n=\n=\nq\n");
        due("2 less ahead of 3 more", hunks(x, NAMES + "@@ -3 +1 @@\n-q\n+x\n", 0), "0: 0 -2 0");
        due("2 more ahead of 3 less", hunks(x, NAMES + "@@ -4 +1 @@\n-q\n+x\n", 0), "0: 5 2 0");
    }

    private static void endOfLatest() {
        sentence(16, "none of these being ahead of the end of the HUNK placed latest");
        Bench x = new Bench();
        x.put(0, "a\nb\nc\nd\ne\n");
        String latest = NAMES + "@@ -1,2 +1 @@\n-b\n-c\n+x\n";
        due("right behind that end", hunks(x, latest + "@@ -3 +1 @@\n-d\n+y\n", 0), "0: 1 1 0, 3 1 0");
        due("the TEXT", x.textOf(1), "a\nx\ny\ne\n");
        due("the LINE ahead of that end", hunks(x, latest + "@@ -3 +1 @@\n-c\n+y\n", 0), "1: 1 1 0, -1 0 0");
        due("one on each side of that end", hunks(x, latest + "@@ -3,2 +1 @@\n-c\n-d\n+y\n", 0), "1: 1 1 0, -1 0 0");
        due("ahead of that HUNK", hunks(x, latest + "@@ -3 +1 @@\n-a\n+y\n", 0), "1: 1 1 0, -1 0 0");
        due("that of the one placed latest, not of one REJECTED", hunks(x, latest + "@@ -3 +1 @@\n-z\n+y\n@@ -4 +1 @@\n-d\n+y\n", 0),
            "1: 1 1 0, -1 0 0, 3 0 0");
        due("its blanks, too", hunks(x, NAMES + "@@ -1,2 +1 @@\n-b\n c\n@@ -3 +1 @@\n-c\n+y\n", 0), "1: 1 1 0, -1 0 0");
        due("a HUNK with no OLD LINES has its end where it is", hunks(x, NAMES + "@@ -2,0 +1 @@\n+x\n@@ -3 +1 @@\n-c\n+y\n", 0),
            "0: 2 0 0, 2 0 0");
        due("and not a LINE ahead of it", hunks(x, NAMES + "@@ -2,0 +1 @@\n+x\n@@ -3 +1 @@\n-b\n+y\n", 0), "1: 2 0 0, -1 0 0");
        x.put(0, "s\nt\n=\ns\nt\n");
        due("ALIKE ahead of it and behind it", hunks(x, NAMES + "@@ -1 +1 @@\n-t\n+x\n@@ -2 +1 @@\n-s\n+y\n", 0), "0: 1 1 0, 3 2 0");
    }

    private static void endOfLatestWithFuzz() {
        sentence(16, "What is left of the HUNK replaces these LINES.");
        Bench x = new Bench();
        x.put(0, "a\nb\nc\nd\ne\n");
        String latest = NAMES + "@@ -1,3 +1,3 @@\n X\n-b\n+B\n Y\n";
        due("what was left out at the end is not replaced", hunks(x, latest + "@@ -4 +1 @@\n-c\n+C\n", 1), "0: 1 0 1, 2 -1 0");
        due("the TEXT", x.textOf(1), "a\nB\nC\nd\ne\n");
        due("what is left is", hunks(x, latest + "@@ -4 +1 @@\n-b\n+C\n", 1), "1: 1 0 1, -1 0 0");
    }

    private static void noOldLines() {
        sentence(16, "(with no OLD LINES left: where there are as many LINES ahead, not ahead of that end either)");
        Bench x = new Bench();
        x.put(0, "a\nb\nc\n");
        due("none ahead", hunks(x, NAMES + "@@ -0,0 +1 @@\n+x\n", 0), "0: 0 0 0");
        due("the TEXT", x.textOf(1), "x\na\nb\nc\n");
        due("all ahead", hunks(x, NAMES + "@@ -3,0 +1 @@\n+x\n", 0), "0: 3 0 0");
        due("the TEXT", x.textOf(1), "a\nb\nc\nx\n");
        due("one more than all ahead", hunks(x, NAMES + "@@ -4,0 +1 @@\n+x\n", 0), "0: 3 -1 0");
        due("far more than all ahead", hunks(x, NAMES + "@@ -99999,0 +1 @@\n+x\n", 0), "0: 3 -99996 0");
        String latest = NAMES + "@@ -1 +1 @@\n-c\n+C\n";
        due("at that end", hunks(x, latest + "@@ -1,0 +1 @@\n+x\n", 0), "0: 2 2 0, 3 2 0");
        due("EXPECTED ahead of that end", hunks(x, NAMES + "@@ -3 +1 @@\n-b\n+B\n@@ -3,0 +1 @@\n+x\n", 0), "0: 1 -1 0, 2 -1 0");
        due("EXPECTED one ahead of that end", hunks(x, NAMES + "@@ -1,0 +1 @@\n+x\n@@ -1,0 +1 @@\n+y\n", 0), "0: 1 0 0, 1 0 0");
        due("the TEXT", x.textOf(1), "a\nx\ny\nb\nc\n");
        due("by FUZZ, at the end of the TEXT", hunks(x, NAMES + "@@ -3 +1,2 @@\n X\n+x\n", 1), "0: 3 0 1");
        due("by FUZZ, beyond the end of the TEXT", hunks(x, NAMES + "@@ -4 +1,2 @@\n X\n+x\n", 1), "0: 3 -1 1");
        x.put(0, "");
        due("in an empty TEXT", hunks(x, NAMES + "@@ -0,0 +1 @@\n+x\n", 0), "0: 0 0 0");
        due("in an empty TEXT, 1 told", hunks(x, NAMES + "@@ -1,0 +1 @@\n+x\n", 0), "0: 0 -1 0");
    }

    private static void rejected() {
        sentence(16, "If it is nowhere, it is REJECTED.");
        sentence(16, "how many HUNKS were REJECTED (of others 0)");
        Bench x = new Bench();
        x.put(0, "a\nb\n");
        due("none of two", hunks(x, NAMES + "@@ -1 +1 @@\n-a\n+x\n@@ -2 +1 @@\n-b\n+y\n", 0), "0: 0 0 0, 1 0 0");
        due("the first of two", hunks(x, NAMES + "@@ -1 +1 @@\n-p\n+x\n@@ -2 +1 @@\n-b\n+y\n", 0), "1: -1 0 0, 1 0 0");
        due("the TEXT", x.textOf(1), "a\ny\n");
        due("the last of two", hunks(x, NAMES + "@@ -1 +1 @@\n-a\n+x\n@@ -2 +1 @@\n-q\n+y\n", 0), "1: 0 0 0, -1 0 0");
        due("the TEXT", x.textOf(1), "x\nb\n");
        due("both", hunks(x, NAMES + "@@ -1 +1 @@\n-p\n+x\n@@ -2 +1 @@\n-q\n+y\n", 3), "2: -1 0 0, -1 0 0");
        due("the TEXT", x.textOf(1), "a\nb\n");
        x.put(0, "");
        due("of an empty TEXT", hunks(x, NAMES + "@@ -1 +1 @@\n-p\n+x\n", 3), "1: -1 0 0");
    }

    private static void placesOfHunks() {
        sentence(19, "Its PLACE is how many LINES of the TEXT are ahead of the first one that was not left out; its SHIFT is PLACE less the LINES left out at its begin, less TOLD.");
        Bench x = new Bench();
        x.put(0, "a\nb\nc\nd\ne\n");
        due("none left out", hunks(x, NAMES + "@@ -1,2 +1,2 @@\n b\n-c\n+C\n", 1), "0: 1 1 0");
        due("one left out", hunks(x, NAMES + "@@ -1,2 +1,2 @@\n X\n-c\n+C\n", 1), "0: 2 1 1");
        due("three left out", hunks(x, NAMES + "@@ -1,4 +1,4 @@\n X\n X\n X\n-c\n+C\n", 3), "0: 2 -1 3");
        due("by the LINES of the TEXT, not of what comes", hunks(x, NAMES + "@@ -1 +1,3 @@\n-a\n+x\n+y\n+z\n@@ -3 +5,0 @@\n-c\n", 0), "0: 0 0 0, 2 0 0");
        due("the TEXT", x.textOf(1), "x\ny\nz\nb\nd\ne\n");
    }

    private static void openLinesInHunks() {
        sentence(16, "The TEXT that comes has all HUNKS that were placed; an OPEN LINE that isn't the last gets a 10.");
        due("the last", applied("a\nb\n", NAMES + "@@ -2 +2 @@\n-b\n+x\n" + MARK, UNIFIED), "a\nx");
        due("ahead of the last", applied("a\nb\n", NAMES + "@@ -1 +1 @@\n-a\n+x\n" + MARK, UNIFIED), "x\nb\n");
        due("the TEXT's own, no longer the last", applied("a\nb", NAMES + "@@ -2,0 +3 @@\n+x\n", UNIFIED), "a\nb\nx\n");
        due("the TEXT's own, still the last", applied("a\nb", NAMES + "@@ -1 +1 @@\n-a\n+x\n", UNIFIED), "x\nb");
        due("an OPEN OLD LINE of the last LINE", applied("a\nb", NAMES + "@@ -2 +2 @@\n-b\n" + MARK + "+b\n", UNIFIED), "a\nb\n");
        due("an OPEN OLD LINE of a LINE with a 10", applied("a\nb\n", NAMES + "@@ -2 +2 @@\n-b\n" + MARK + "+b\n", UNIFIED), "1 rejected: a\nb\n");
        due("an OLD LINE with a 10 of the OPEN one", applied("a\nb", NAMES + "@@ -2 +2 @@\n-b\n+x\n", UNIFIED), "1 rejected: a\nb");
        due("an OPEN PAIR", applied("a\nb", NAMES + "@@ -1,2 +1 @@\n-a\n b\n" + MARK, UNIFIED), "b");
        due("two that come", applied("a\n", NAMES + "@@ -1 +1,2 @@\n-a\n+x\n" + MARK + "+y\n" + MARK, UNIFIED), "x\ny");
        due("of two HUNKS at one place", applied("", NAMES + "@@ -0,0 +1 @@\n+x\n" + MARK + "@@ -0,0 +1 @@\n+y\n" + MARK, UNIFIED), "x\ny");
    }

    private static void hunk() {
        sentence(19, "0 its PLACE (NONE if it was REJECTED), 1 its SHIFT, 2 its FUZZ (both 0 then). NONE if there is none such.");
        Bench x = busy();
        due("HUNK 0", x.hunk(0, 0) + " " + x.hunk(0, 1) + " " + x.hunk(0, 2), "2 1 1");
        due("HUNK 1, REJECTED", x.hunk(1, 0) + " " + x.hunk(1, 1) + " " + x.hunk(1, 2), "-1 0 0");
        for (int k : new int[] {-1, 2, MIN, MAX}) {
            for (int what = 0; what <= 2; what++) {
                due("HUNK " + k + ", what " + what, x.hunk(k, what), -1);
            }
        }
        for (int what : new int[] {-1, 3, MIN, MAX}) {
            due("what " + what, x.hunk(0, what), -1);
            due("what " + what + " of one REJECTED", x.hunk(1, what), -1);
        }
        sentence(19, "Of HUNK k (from 0 on) of the latest apply() of UNIFIED that wasn't NONE");
        String two = "2 1 1, -1 0 0";
        x.tape("1d\n");
        due("an apply() of ED", x.apply(0, ED, 0, 1), 0);
        due("an apply() of ED", x.hunks(), two);
        x.tape("0a1\n> x\n");
        due("an apply() of NORMAL", x.apply(0, NORMAL, 0, 1), 0);
        due("an apply() of NORMAL", x.hunks(), two);
        String one = NAMES + "@@ -1 +1 @@\n-one\n+1\n";
        x.tape(one);
        due("a turn()", x.turn(UNIFIED), one.length());
        due("a turn()", x.hunks(), two);
        refusedWith("0 0", "an apply() with no such f", x, b -> b.apply(0, UNIFIED, 4, 1));
        x.tape(one + "x\n");
        refusedWith("1 6", "an apply() that is not WELL FORMED", x, b -> b.apply(0, UNIFIED, 0, 1));
        x.put(3, "one\n" + "\n".repeat(199));
        x.tape(NAMES + "@@ -1 +1,2 @@\n-one\n+1\n+2\n");
        refusedWith("3 0", "an apply() that is too long", x, b -> b.apply(3, UNIFIED, 0, 1));
        x.tape(one);
        due("an apply() of UNIFIED", x.apply(0, UNIFIED, 0, 1), 0);
        due("an apply() of UNIFIED", x.hunks(), "0 0 0");
        due("no HUNK 1 now", x.hunk(1, 1), -1);
        x.tape("");
        due("an apply() of UNIFIED without HUNKS", x.apply(0, UNIFIED, 0, 1), 0);
        due("an apply() of UNIFIED without HUNKS", x.count(2), 0);
        due("no HUNK 0 now", x.hunk(0, 1), -1);
    }

    private static void mostHunks() {
        sentence(19, "Of HUNK k (from 0 on)");
        StringBuilder script = new StringBuilder("--- \n+++ \n");
        int hunks = 0;
        while (script.length() + 16 <= 6000) {
            hunks++;
            script.append("@@ -").append(hunks).append(" +1 @@\n \n");
        }
        Bench x = new Bench();
        x.tape(script.toString());
        due("as many as the TAPE takes, all REJECTED", x.apply(0, UNIFIED, 0, 1), hunks);
        due("how many", x.count(2), hunks);
        due("how many", hunks, 381);
        due("the last one's SHIFT", x.hunk(hunks - 1, 1), 0);
        due("behind the last one", x.hunk(hunks, 1), -1);
        due("with FUZZ, none REJECTED", x.apply(0, UNIFIED, 1, 1), 0);
        due("the last one", x.hunk(hunks - 1, 0) + " " + x.hunk(hunks - 1, 1) + " " + x.hunk(hunks - 1, 2), "0 " + -hunks + " 1");
        due("turned round", x.turn(UNIFIED), script.length());
        due("turned round", x.outOf().startsWith("--- \n+++ \n@@ -1 +1 @@\n \n@@ -1 +2 @@\n \n"), true);
    }

    private static void turnArguments() {
        sentence(17, "NONE, and OUT stays, if the form isn't 0 or 1 (fault() 0), or it isn't WELL FORMED (1).");
        for (int form : new int[] {-1, 2, 3, MIN, MAX}) {
            refusedWith("0 0", "form " + form, busy(), b -> b.turn(form));
            Bench empty = busy();
            empty.tape("");
            refusedWith("0 0", "form " + form + " of an empty TAPE", empty, b -> b.turn(form));
        }
        refusedWith("1 3", "NORMAL", busy(), b -> b.turn(NORMAL));
        refusedWith("1 1", "UNIFIED", busy(), b -> b.turn(UNIFIED));
        sentence(17, "OUT is the script on the TAPE (which stays) TURNED ROUND: how many BYTES.");
        for (int form = 0; form < 2; form++) {
            Bench x = busy();
            x.tape("");
            due("an empty TAPE", x.turn(form), 0);
            due("an empty TAPE", x.count(1), 0);
            due("an empty TAPE", x.faults(), "0 0");
            x.tape(form == 0 ? "1d0\n< a\n" : NAMES + "@@ -1 +0,0 @@\n-a\n");
            String[] texts = {x.textOf(0), x.tapeOf()};
            due("one", x.turn(form), texts[1].length());
            due("the TAPE", x.tapeOf(), texts[1]);
            due("TEXT 0", x.textOf(0), texts[0]);
            due("HUNKS", x.hunks(), "2 1 1, -1 0 0");
        }
    }

    private static void turnNormal() {
        sentence(17, "in NORMAL RANGES change their places, \"a\" and \"d\" too, LINES with them");
        due("\"a\" of 0", turned("0a1\n> x\n", NORMAL), "1d0\n< x\n");
        due("\"d\" to 0", turned("1d0\n< x\n", NORMAL), "0a1\n> x\n");
        due("\"a\" of two", turned("5a6,7\n> x\n> y\n" + MARK, NORMAL), "6,7d5\n< x\n< y\n" + MARK);
        due("\"d\" of two", turned("6,7d5\n< x\n< y\n" + MARK, NORMAL), "5a6,7\n> x\n> y\n" + MARK);
        due("\"c\" of one for one", turned("1c1\n< x\n" + MARK + "---\n> y\n", NORMAL), "1c1\n< y\n---\n> x\n" + MARK);
        due("\"c\" of two for one", turned("1,2c1\n< x\n< y\n---\n> z\n", NORMAL), "1c1,2\n< z\n---\n> x\n> y\n");
        due("numbers of 5 digits", turned("99998a99999\n> x\n", NORMAL), "99999d99998\n< x\n");
        due("with none of its own BYTES", turned("1c1\n< \n---\n> \n", NORMAL), "1c1\n< \n---\n> \n");
        due("commands stay in order", turned("0a1\n> x\n1d1\n< y\n3c3\n< p\n---\n> q\n", NORMAL), "1d0\n< x\n1a1\n> y\n3c3\n< q\n---\n> p\n");
    }

    private static void turnUnified() {
        sentence(17, "the first two lines their places but for \"---\", \"+++\" (what stands behind them goes along)");
        String hunk = "@@ -1 +1 @@\n x\n";
        due("no BYTE behind one", turned("--- \n+++ y z\n" + hunk, UNIFIED), "--- y z\n+++ \n" + hunk);
        due("signs behind them", turned("--- +++ x\n+++ --- y\n" + hunk, UNIFIED), "--- --- y\n+++ +++ x\n" + hunk);
        sentence(17, "of each row of \"-\" and \"+\" LINES with no blank one between all that are \"+\" become \"-\" and come first");
        String names = "--- y\n+++ x\n";
        due("a row at the begin", turned(NAMES + "@@ -1,2 +1,2 @@\n-p\n+q\n x\n", UNIFIED), names + "@@ -1,2 +1,2 @@\n-q\n+p\n x\n");
        due("a row at the end", turned(NAMES + "@@ -1,2 +1,2 @@\n x\n-p\n+q\n", UNIFIED), names + "@@ -1,2 +1,2 @@\n x\n-q\n+p\n");
        due("a blank one between", turned(NAMES + "@@ -1,2 +1,2 @@\n-p\n x\n+q\n", UNIFIED), names + "@@ -1,2 +1,2 @@\n+p\n x\n-q\n");
        due("by turns", turned(NAMES + "@@ -1,2 +1,2 @@\n+q\n-p\n+s\n-r\n", UNIFIED), names + "@@ -1,2 +1,2 @@\n-q\n-s\n+p\n+r\n");
        due("a row ends with its HUNK", turned(NAMES + "@@ -1 +1,0 @@\n-p\n@@ -2,0 +2 @@\n+q\n", UNIFIED), names + "@@ -1,0 +1 @@\n+p\n@@ -2 +2,0 @@\n-q\n");
        due("OPEN ones", turned(NAMES + "@@ -1,2 +1,2 @@\n-p\n" + MARK + "+q\n x\n" + MARK, UNIFIED),
            names + "@@ -1,2 +1,2 @@\n-q\n+p\n" + MARK + " x\n" + MARK);
        due("none of a", turned(NAMES + "@@ -0,0 +1,2 @@\n+p\n+q\n", UNIFIED), names + "@@ -1,2 +0,0 @@\n-p\n-q\n");
        due("none of b", turned(NAMES + "@@ -1,2 +0,0 @@\n-p\n-q\n", UNIFIED), names + "@@ -0,0 +1,2 @@\n+p\n+q\n");
        due("numbers of 5 digits", turned(NAMES + "@@ -99999,2 +99998 @@\n x\n-p\n", UNIFIED), names + "@@ -99998 +99999,2 @@\n x\n+p\n");
    }
}
