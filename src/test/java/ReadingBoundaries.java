/** The boundary cases of what is WELL FORMED, section 3 of the terms, as apply(), turn() and fault() tell it: promises 16 to 18. */
public final class ReadingBoundaries extends Samples {
    public static void main(String[] args) {
        lastLine();
        missingLine();
        digits();
        zeroAhead();
        risingRanges();
        numbersOfLines();
        normalCommands();
        normalLines();
        normalMarks();
        normalOrder();
        normalPlaceInB();
        unifiedNames();
        unifiedHeads();
        unifiedLines();
        unifiedMarks();
        unifiedOrder();
        unifiedZeros();
        numbersOfB();
        edCommands();
        edOrder();
        edLines();
        fault();
        finish();
    }

    /** It is WELL FORMED, whatever comes of it. */
    private static void fine(String what, int form, String script) {
        Bench x = busy();
        x.tape(script);
        x.apply(0, form, 0, 1);
        due(what + ": not WELL FORMED", x.fault(0) == 1, false);
        due(what + ": WRONG line", x.fault(1), 0);
        if (form != ED) {
            due(what + ": turn()", x.turn(form), script.length());
            due(what + ": fault() of turn()", x.faults(), "0 0");
        }
    }

    /** Both apply() and turn() refuse it, tell this line, and leave all the rest as it was. */
    private static void wrongAt(int line, String what, int form, String script) {
        Bench x = busy();
        x.tape(script);
        refusedWith("1 " + line, what + ": apply()", x, b -> b.apply(0, form, 0, 1));
        if (form != ED) {
            x.apply(0, -1, 0, 0);
            refusedWith("1 " + line, what + ": turn()", x, b -> b.turn(form));
        }
    }

    private static void lastLine() {
        sentence(16, "by lines of the TAPE (a last one without a 10 can't be so)");
        String[] scripts = {"1c1\n< a\n---\n> b\n", NAMES + "@@ -1 +1 @@\n-a\n+b\n", "2d\n1c\nb\n.\n"};
        int[] lines = {4, 5, 4};
        for (int form = 0; form < 3; form++) {
            String script = scripts[form];
            fine("all", form, script);
            wrongAt(lines[form], "without the last 10", form, script.substring(0, script.length() - 1));
            wrongAt(1, "the first BYTE alone", form, script.substring(0, 1));
            wrongAt(1, "a 10 alone", form, "\n");
            wrongAt(lines[form] + 1, "a 10 behind it", form, script + "\n");
            wrongAt(lines[form] + 1, "a BYTE behind it", form, script + "1");
            fine("an empty TAPE", form, "");
        }
        wrongAt(3, "NORMAL, MARK without its 10", NORMAL, "1d0\n< a\n" + MARK.trim());
        wrongAt(5, "UNIFIED, MARK without its 10", UNIFIED, NAMES + "@@ -1 +0,0 @@\n-a\n" + MARK.trim());
    }

    private static void missingLine() {
        sentence(16, "Else the first line that can't be so is WRONG (a line that is missing at the end: 1 more than there are).");
        wrongAt(2, "NORMAL, behind the command", NORMAL, "1d0\n");
        wrongAt(3, "NORMAL, \"---\"", NORMAL, "1c1\n< a\n");
        wrongAt(4, "NORMAL, behind \"---\"", NORMAL, "1c1\n< a\n---\n");
        wrongAt(3, "NORMAL, the second of two", NORMAL, "1,2d0\n< a\n");
        wrongAt(4, "NORMAL, behind MARK", NORMAL, "1c1\n< a\n" + MARK);
        wrongAt(2, "UNIFIED, the second name", UNIFIED, "--- x\n");
        wrongAt(3, "UNIFIED, the first HUNK", UNIFIED, NAMES);
        wrongAt(4, "UNIFIED, behind the HUNK's first line", UNIFIED, NAMES + "@@ -1 +1 @@\n");
        wrongAt(5, "UNIFIED, the second of two", UNIFIED, NAMES + "@@ -1 +1 @@\n-a\n");
        wrongAt(6, "UNIFIED, behind MARK", UNIFIED, NAMES + "@@ -1 +1 @@\n-a\n" + MARK);
        wrongAt(2, "ED, behind \"a\"", ED, "1a\n");
        wrongAt(3, "ED, the dot", ED, "1a\nx\n");
        wrongAt(2, "the first of two WRONG lines", NORMAL, "1d0\nx\ny\n");
        wrongAt(3, "a line that is WRONG ahead of one that is missing", NORMAL, "1,3d0\n< a\nx\n");
    }

    private static void digits() {
        sentence(16, "numbers have 1 to 5 digits");
        fine("NORMAL, 5 of a", NORMAL, "99999d99998\n< x\n");
        fine("NORMAL, 5 of both", NORMAL, "99998a99999\n> x\n");
        wrongAt(1, "NORMAL, 6 of a", NORMAL, "100000d99999\n< x\n");
        wrongAt(1, "NORMAL, 6 of b", NORMAL, "99999a100000\n> x\n");
        wrongAt(2, "NORMAL, 5 of the last of a", NORMAL, "1,99999d0\n");
        wrongAt(1, "NORMAL, 6 of the last of a", NORMAL, "1,100000d0\n");
        wrongAt(2, "NORMAL, 5 of the last of b", NORMAL, "0a1,99999\n");
        wrongAt(1, "NORMAL, 6 of the last of b", NORMAL, "0a1,100000\n");
        wrongAt(1, "NORMAL, none of a", NORMAL, "d0\n< x\n");
        wrongAt(1, "NORMAL, none of b", NORMAL, "1d\n< x\n");
        wrongAt(1, "NORMAL, none behind a's \",\"", NORMAL, "1,d0\n< x\n");
        wrongAt(1, "NORMAL, none behind b's \",\"", NORMAL, "0a1,\n> x\n");
        fine("UNIFIED, 5", UNIFIED, NAMES + "@@ -99999 +99999 @@\n x\n");
        wrongAt(3, "UNIFIED, 6 of a", UNIFIED, NAMES + "@@ -100000 +1 @@\n x\n");
        wrongAt(3, "UNIFIED, 6 of b", UNIFIED, NAMES + "@@ -1 +100000 @@\n x\n");
        wrongAt(4, "UNIFIED, 5 of a's LINES", UNIFIED, NAMES + "@@ -1,99999 +1 @@\n");
        wrongAt(3, "UNIFIED, 6 of a's LINES", UNIFIED, NAMES + "@@ -1,100000 +1 @@\n");
        wrongAt(4, "UNIFIED, 5 of b's LINES", UNIFIED, NAMES + "@@ -1 +1,99999 @@\n");
        wrongAt(3, "UNIFIED, 6 of b's LINES", UNIFIED, NAMES + "@@ -1 +1,100000 @@\n");
        wrongAt(3, "UNIFIED, none of a", UNIFIED, NAMES + "@@ - +1 @@\n x\n");
        wrongAt(3, "UNIFIED, none of b", UNIFIED, NAMES + "@@ -1 + @@\n x\n");
        wrongAt(3, "UNIFIED, none behind \",\"", UNIFIED, NAMES + "@@ -1, +1 @@\n x\n");
        fine("ED, 5", ED, "99998,99999d\n");
        wrongAt(1, "ED, 6", ED, "100000d\n");
        wrongAt(1, "ED, 6 of the last", ED, "99999,100000d\n");
        wrongAt(1, "ED, none", ED, "d\n");
        wrongAt(1, "ED, none behind \",\"", ED, "1,d\n");
        for (String noDigit : new String[] {"/", ":", "-1", "+1", " 1", "1 "}) {
            wrongAt(1, "ED, " + noDigit, ED, noDigit + "d\n");
            wrongAt(1, "NORMAL, " + noDigit, NORMAL, noDigit + "d0\n< a\n");
        }
        fine("ED, 0 and 9 in it", ED, "9d\n");
        fine("ED, 0 and 9 in it", ED, "10d\n");
    }

    private static void zeroAhead() {
        sentence(16, "no 0 ahead of others");
        fine("NORMAL, 0 alone", NORMAL, "0a1\n> x\n");
        wrongAt(1, "NORMAL, 00", NORMAL, "00a1\n> x\n");
        wrongAt(1, "NORMAL, 01 of a", NORMAL, "01d0\n< x\n");
        wrongAt(1, "NORMAL, 01 of b", NORMAL, "0a01\n> x\n");
        wrongAt(1, "NORMAL, 02 of a's last", NORMAL, "1,02d0\n< x\n< y\n");
        wrongAt(1, "NORMAL, 00 of b", NORMAL, "1d00\n< x\n");
        fine("UNIFIED, 0 alone", UNIFIED, NAMES + "@@ -0,0 +1 @@\n+x\n");
        wrongAt(3, "UNIFIED, 00", UNIFIED, NAMES + "@@ -00,0 +1 @@\n+x\n");
        wrongAt(3, "UNIFIED, ,00", UNIFIED, NAMES + "@@ -0,00 +1 @@\n+x\n");
        wrongAt(3, "UNIFIED, 01", UNIFIED, NAMES + "@@ -01 +1 @@\n x\n");
        wrongAt(3, "UNIFIED, 01 of b", UNIFIED, NAMES + "@@ -1 +01 @@\n x\n");
        wrongAt(3, "UNIFIED, ,02", UNIFIED, NAMES + "@@ -1,02 +1,2 @@\n x\n y\n");
        fine("ED, 0 alone", ED, "0a\nx\n.\n");
        wrongAt(1, "ED, 00", ED, "00a\nx\n.\n");
        wrongAt(1, "ED, 01", ED, "01d\n");
        fine("ED, 0 behind others", ED, "10,100d\n");
        sentence(16, "LINES are counted from 1.");
        wrongAt(1, "NORMAL, LINE 0 GOES", NORMAL, "0d0\n< x\n");
        wrongAt(1, "NORMAL, LINE 0 GOES for another", NORMAL, "0c0\n< x\n---\n> y\n");
        wrongAt(1, "NORMAL, LINES 0 and 1 GO", NORMAL, "0,1d0\n< x\n< y\n");
        wrongAt(1, "ED, LINE 0 GOES", ED, "0d\n");
        wrongAt(1, "ED, LINE 0 GOES for another", ED, "0c\nx\n.\n");
        wrongAt(1, "ED, LINES 0 and 1 GO", ED, "0,1d\n");
        fine("ED, LINE 1 GOES", ED, "1d\n");
    }

    private static void risingRanges() {
        sentence(16, "RANGES with \",\" rise");
        fine("NORMAL, one more", NORMAL, "2,3d1\n< x\n< y\n");
        wrongAt(1, "NORMAL, the same", NORMAL, "2,2d1\n< x\n");
        wrongAt(1, "NORMAL, one less", NORMAL, "2,1d1\n< x\n");
        fine("NORMAL, one more of b", NORMAL, "1a2,3\n> x\n> y\n");
        wrongAt(1, "NORMAL, the same of b", NORMAL, "1a2,2\n> x\n");
        wrongAt(1, "NORMAL, one less of b", NORMAL, "1a2,1\n> x\n");
        fine("NORMAL, \"c\", both rise", NORMAL, "2,3c2,3\n< x\n< y\n---\n> x\n> z\n");
        wrongAt(1, "NORMAL, \"c\", the same of a", NORMAL, "2,2c2,3\n< x\n---\n> x\n> z\n");
        wrongAt(1, "NORMAL, \"c\", the same of b", NORMAL, "2,3c2,2\n< x\n< y\n---\n> x\n");
        fine("ED, one more", ED, "2,3d\n");
        wrongAt(1, "ED, the same", ED, "2,2d\n");
        wrongAt(1, "ED, one less", ED, "2,1d\n");
        wrongAt(1, "ED, \"c\", the same", ED, "2,2c\nx\n.\n");
    }

    private static void numbersOfLines() {
        sentence(16, "(in UNIFIED the number of LINES is any but 1)");
        fine("0 of a", UNIFIED, NAMES + "@@ -1,0 +1 @@\n+x\n");
        wrongAt(3, "1 of a", UNIFIED, NAMES + "@@ -1,1 +1 @@\n x\n");
        fine("2 of a", UNIFIED, NAMES + "@@ -1,2 +1 @@\n x\n-y\n");
        fine("0 of b", UNIFIED, NAMES + "@@ -1 +1,0 @@\n-x\n");
        wrongAt(3, "1 of b", UNIFIED, NAMES + "@@ -1 +1,1 @@\n x\n");
        fine("2 of b", UNIFIED, NAMES + "@@ -1 +1,2 @@\n x\n+y\n");
        fine("fewer than the first number", UNIFIED, NAMES + "@@ -7,2 +9,2 @@\n x\n y\n");
    }

    private static void normalCommands() {
        sentence(16, "NORMAL: commands as told");
        fine("\"a\"", NORMAL, "1a2,3\n> x\n> y\n");
        wrongAt(1, "\"a\" with a RANGE of a", NORMAL, "1,2a3\n> x\n");
        fine("\"d\"", NORMAL, "2,3d1\n< x\n< y\n");
        wrongAt(1, "\"d\" with a RANGE of b", NORMAL, "2d1,2\n< x\n");
        for (String letter : new String[] {"b", "e", "A", "", " ", "ad", "."}) {
            wrongAt(1, "letter " + letter, NORMAL, "1" + letter + "1\n< a\n---\n> b\n");
        }
        fine("\"c\"", NORMAL, "1c1\n< a\n---\n> b\n");
        wrongAt(1, "a blank behind it", NORMAL, "1c1 \n< a\n---\n> b\n");
        wrongAt(1, "a blank ahead of it", NORMAL, " 1c1\n< a\n---\n> b\n");
        wrongAt(1, "a 13 behind it", NORMAL, "1c1\r\n< a\n---\n> b\n");
        wrongAt(1, "a third number", NORMAL, "1c1,2,3\n< a\n---\n> b\n");
        wrongAt(3, "\"--\"", NORMAL, "1c1\n< a\n--\n> b\n");
        wrongAt(3, "\"----\"", NORMAL, "1c1\n< a\n----\n> b\n");
        wrongAt(3, "\"---\" behind a \"d\"", NORMAL, "1d0\n< a\n---\n");
        wrongAt(2, "\"---\" ahead of an \"a\"'s LINES", NORMAL, "0a1\n---\n> a\n");
    }

    private static void normalLines() {
        sentence(16, "LINES as many as the RANGES tell, each behind its sign and a blank");
        fine("two", NORMAL, "1,2d0\n< a\n< b\n");
        wrongAt(3, "one too few", NORMAL, "1,2d0\n< a\n3d0\n< c\n");
        wrongAt(4, "one too many", NORMAL, "1,2d0\n< a\n< b\n< c\n");
        wrongAt(3, "one of a too few, ahead of \"---\"", NORMAL, "1,2c1\n< a\n---\n> b\n");
        wrongAt(3, "one of a too many, ahead of \"---\"", NORMAL, "1c1\n< a\n< b\n---\n> b\n");
        wrongAt(5, "one of b too few", NORMAL, "1c1,2\n< a\n---\n> b\n2d1\n< c\n");
        wrongAt(5, "one of b too many", NORMAL, "1c1\n< a\n---\n> b\n> c\n");
        fine("with none of its own BYTES", NORMAL, "1c1\n< \n---\n> \n");
        wrongAt(2, "without the blank", NORMAL, "1d0\n<\n");
        wrongAt(2, "another BYTE than the blank", NORMAL, "1d0\n<a\n");
        wrongAt(2, "the other sign", NORMAL, "1d0\n> a\n");
        wrongAt(4, "the other sign behind \"---\"", NORMAL, "1c1\n< a\n---\n< a\n");
        wrongAt(2, "no BYTE", NORMAL, "1d0\n\n");
    }

    private static void normalMarks() {
        sentence(16, "MARK may stand behind the last LINE of a row of them (that LINE is OPEN)");
        fine("behind the last of a", NORMAL, "1,2d0\n< a\n< b\n" + MARK);
        wrongAt(3, "behind the first of two of a", NORMAL, "1,2d0\n< a\n" + MARK + "< b\n");
        fine("behind the last of b", NORMAL, "0a1,2\n> a\n> b\n" + MARK);
        wrongAt(3, "behind the first of two of b", NORMAL, "0a1,2\n> a\n" + MARK + "> b\n");
        fine("behind both rows", NORMAL, "1c1\n< a\n" + MARK + "---\n> b\n" + MARK);
        fine("behind the last of a, with more commands", NORMAL, "1d0\n< a\n" + MARK + "2d0\n< b\n");
        wrongAt(4, "twice", NORMAL, "1d0\n< a\n" + MARK + MARK);
        wrongAt(1, "ahead of all", NORMAL, MARK);
        wrongAt(2, "behind the command", NORMAL, "1d0\n" + MARK + "< a\n");
        wrongAt(4, "behind \"---\"", NORMAL, "1c1\n< a\n---\n" + MARK + "> b\n");
        wrongAt(3, "with a BYTE more", NORMAL, "1d0\n< a\n" + MARK.trim() + ".\n");
        wrongAt(3, "with a BYTE less", NORMAL, "1d0\n< a\n" + MARK.substring(0, 26) + "\n");
        wrongAt(3, "another such line", NORMAL, "1d0\n< a\n" + MARK.replace('N', 'n'));
    }

    private static void normalOrder() {
        sentence(16, "A command's first number of a is above all LINES that commands ahead of it told");
        String two = "2,3d1\n< b\n< c\n";
        fine("one above", NORMAL, two + "4d1\n< d\n");
        wrongAt(4, "the last one", NORMAL, two + "3d0\n< c\n");
        wrongAt(4, "\"c\" of the last one", NORMAL, two + "3c1\n< c\n---\n> x\n");
        fine("\"c\" one above", NORMAL, two + "4c2\n< d\n---\n> x\n");
        sentence(16, "(an \"a\" tells the LINE of its number; \"a\": not below the last one of these)");
        fine("\"a\" of the last one", NORMAL, two + "3a2\n> x\n");
        wrongAt(4, "\"a\" one below", NORMAL, two + "2a1\n> x\n");
        fine("\"a\" one above", NORMAL, two + "4a3\n> x\n");
        String added = "2a3\n> x\n";
        fine("one above an \"a\"", NORMAL, added + "3d3\n< c\n");
        wrongAt(3, "the LINE of an \"a\"", NORMAL, added + "2d2\n< b\n");
        wrongAt(3, "\"c\" of the LINE of an \"a\"", NORMAL, added + "2c3\n< b\n---\n> y\n");
        fine("\"a\" behind the LINE of an \"a\"", NORMAL, added + "2a4\n> y\n");
        wrongAt(3, "\"a\" one below an \"a\"", NORMAL, added + "1a3\n> y\n");
        fine("\"a\" of 0 twice", NORMAL, "0a1\n> x\n0a2\n> y\n");
        fine("LINE 1 behind an \"a\" of 0", NORMAL, "0a1\n> x\n1d1\n< a\n");
        sentence(16, "else that command is WRONG");
        wrongAt(4, "though its LINES are WRONG, too", NORMAL, two + "3d0\nx\n");
    }

    private static void normalPlaceInB() {
        sentence(16, "and b's is where its LINES then come (how many are ahead by a's number and all commands ahead): else that command is WRONG.");
        wrongAt(1, "\"a\", one less", NORMAL, "2a2\n> x\n");
        fine("\"a\"", NORMAL, "2a3\n> x\n");
        wrongAt(1, "\"a\", one more", NORMAL, "2a4\n> x\n");
        wrongAt(1, "\"d\", one less", NORMAL, "2d0\n< b\n");
        fine("\"d\"", NORMAL, "2d1\n< b\n");
        wrongAt(1, "\"d\", one more", NORMAL, "2d2\n< b\n");
        wrongAt(1, "\"c\", one less", NORMAL, "2c1\n< b\n---\n> x\n");
        fine("\"c\"", NORMAL, "2c2\n< b\n---\n> x\n");
        wrongAt(1, "\"c\", one more", NORMAL, "2c3\n< b\n---\n> x\n");
        wrongAt(1, "\"a\" with a RANGE, one more", NORMAL, "2a4,5\n> x\n> y\n");
        String[] ahead = {"1a2,3\n> x\n> y\n", "1,2d0\n< a\n< b\n", "1,2c1\n< a\n< b\n---\n> x\n", "1c1,3\n< a\n---\n> x\n> y\n> z\n"};
        int[] lines = {3, 3, 5, 6};
        int[] moreOfB = {2, -2, -1, 2};
        for (int n = 0; n < ahead.length; n++) {
            for (int off = -1; off <= 1; off++) {
                int b = 5 + moreOfB[n] + off;
                String[] commands = {"5c" + b + "\n< e\n---\n> f\n", "5d" + (b - 1) + "\n< e\n", "5a" + (b + 1) + "\n> f\n"};
                for (String command : commands) {
                    if (off == 0) {
                        fine(command, NORMAL, ahead[n] + command);
                    } else {
                        wrongAt(lines[n] + 1, command, NORMAL, ahead[n] + command);
                    }
                }
            }
        }
        fine("by all commands ahead, not the latest alone", NORMAL, "1d0\n< a\n2d0\n< b\n3d0\n< c\n");
        wrongAt(5, "by the latest alone", NORMAL, "1d0\n< a\n2d0\n< b\n3d1\n< c\n");
    }

    private static void unifiedNames() {
        sentence(16, "UNIFIED: empty, or a line that begins with \"--- \", one with \"+++ \", then one HUNK or more");
        String hunk = "@@ -1 +1 @@\n x\n";
        fine("one HUNK", UNIFIED, NAMES + hunk);
        fine("two HUNKS", UNIFIED, NAMES + hunk + "@@ -2 +2 @@\n y\n");
        wrongAt(3, "no HUNK", UNIFIED, NAMES);
        fine("no BYTE behind \"--- \" and \"+++ \"", UNIFIED, "--- \n+++ \n" + hunk);
        wrongAt(1, "\"---\" without a blank", UNIFIED, "---\n+++ y\n" + hunk);
        wrongAt(1, "\"---x\"", UNIFIED, "---x\n+++ y\n" + hunk);
        wrongAt(2, "\"+++\" without a blank", UNIFIED, "--- x\n+++\n" + hunk);
        wrongAt(1, "a blank ahead of \"--- \"", UNIFIED, " --- x\n+++ y\n" + hunk);
        wrongAt(1, "\"+++ \" first", UNIFIED, "+++ y\n--- x\n" + hunk);
        wrongAt(2, "\"--- \" twice", UNIFIED, "--- x\n--- x\n+++ y\n" + hunk);
        wrongAt(1, "no names", UNIFIED, hunk);
        wrongAt(5, "names again", UNIFIED, NAMES + hunk + NAMES + hunk);
    }

    private static void unifiedHeads() {
        sentence(16, "\"@@ -\", RANGE of a, \" +\", RANGE of b, \" @@\", 10");
        String[] heads = {"@@ -1 +1 @@x", "@@ -1 +1 @@ ", "@@ -1 +1 @", "@@ -1 +1@@", "@@ -1+1 @@", "@@ -1  +1 @@", "@@ - 1 +1 @@",
            "@@-1 +1 @@", "@ -1 +1 @@", " @@ -1 +1 @@", "@@ +1 -1 @@", "@@ -1 @@", "@@ -1 -1 @@", "@@ -1,2,3 +1 @@", "@@", ""};
        for (String head : heads) {
            wrongAt(3, head, UNIFIED, NAMES + head + "\n x\n y\n");
        }
        fine("as told", UNIFIED, NAMES + "@@ -1 +1 @@\n x\n");
        sentence(16, "so is one that would have no LINES at all");
        wrongAt(3, "none of both", UNIFIED, NAMES + "@@ -1,0 +1,0 @@\n");
        wrongAt(3, "none of both, first numbers 0", UNIFIED, NAMES + "@@ -0,0 +0,0 @@\n");
        wrongAt(5, "none of both in the second HUNK", UNIFIED, NAMES + "@@ -1 +1 @@\n x\n@@ -2,0 +1,0 @@\n");
        fine("one of b", UNIFIED, NAMES + "@@ -1,0 +1 @@\n+x\n");
        fine("one of a", UNIFIED, NAMES + "@@ -1 +1,0 @@\n-x\n");
    }

    private static void unifiedLines() {
        sentence(16, "LINES by their signs until both numbers of them are had (a blank counts for both)");
        fine("a blank is the last of both", UNIFIED, NAMES + "@@ -1,2 +1,2 @@\n-a\n+b\n c\n");
        fine("any order", UNIFIED, NAMES + "@@ -1,2 +1,2 @@\n+b\n-a\n+d\n-c\n");
        wrongAt(6, "one more \"-\" than a's", UNIFIED, NAMES + "@@ -1,2 +1 @@\n-a\n-b\n-c\n+x\n");
        wrongAt(5, "one more \"+\" than b's", UNIFIED, NAMES + "@@ -1,2 +1 @@\n+a\n+b\n-c\n-d\n");
        wrongAt(5, "a blank with none of a's left", UNIFIED, NAMES + "@@ -1 +1 @@\n-a\n b\n");
        wrongAt(5, "a blank with none of b's left", UNIFIED, NAMES + "@@ -1 +1 @@\n+a\n b\n");
        wrongAt(4, "a blank with none of a", UNIFIED, NAMES + "@@ -1,0 +1 @@\n a\n");
        wrongAt(4, "a blank with none of b", UNIFIED, NAMES + "@@ -1 +1,0 @@\n a\n");
        wrongAt(5, "one more behind both", UNIFIED, NAMES + "@@ -1 +1 @@\n a\n b\n");
        wrongAt(5, "a HUNK ahead of the last LINE", UNIFIED, NAMES + "@@ -1,2 +1,2 @@\n a\n@@ -3 +3 @@\n b\n");
        fine("with none of its own BYTES", UNIFIED, NAMES + "@@ -1,2 +1,2 @@\n \n-\n+\n");
        wrongAt(4, "no BYTE", UNIFIED, NAMES + "@@ -1 +1 @@\n\n");
        for (String sign : new String[] {"!", ",", "*", "<", ">", "\t", "\\", "@"}) {
            wrongAt(4, "sign " + sign, UNIFIED, NAMES + "@@ -1 +1 @@\n" + sign + "a\n");
        }
    }

    private static void unifiedMarks() {
        sentence(16, "MARK may stand behind any LINE (that one is OPEN)");
        fine("any", UNIFIED, NAMES + "@@ -1,2 +1,2 @@\n-a\n" + MARK + "+b\n" + MARK + " c\n" + MARK);
        fine("with a HUNK behind it", UNIFIED, NAMES + "@@ -1 +1 @@\n a\n" + MARK + "@@ -2 +2 @@\n b\n");
        wrongAt(6, "twice", UNIFIED, NAMES + "@@ -1 +1 @@\n a\n" + MARK + MARK);
        wrongAt(4, "ahead of the LINES", UNIFIED, NAMES + "@@ -1 +1 @@\n" + MARK + " a\n");
        wrongAt(3, "ahead of the HUNK", UNIFIED, NAMES + MARK + "@@ -1 +1 @@\n a\n");
        wrongAt(1, "ahead of all", UNIFIED, MARK + NAMES + "@@ -1 +1 @@\n a\n");
        wrongAt(5, "with a BYTE more", UNIFIED, NAMES + "@@ -1 +1 @@\n a\n" + MARK.trim() + ".\n");
        wrongAt(5, "with a BYTE less", UNIFIED, NAMES + "@@ -1 +1 @@\n a\n" + MARK.substring(0, 26) + "\n");
    }

    private static void unifiedOrder() {
        sentence(16, "A HUNK's first number of a is above all LINES of a that HUNKS ahead told");
        String two = NAMES + "@@ -2,2 +2,2 @@\n b\n c\n";
        fine("one above", UNIFIED, two + "@@ -4 +4 @@\n d\n");
        wrongAt(6, "the last one", UNIFIED, two + "@@ -3 +4 @@\n d\n");
        fine("one above a single LINE", UNIFIED, NAMES + "@@ -2 +2 @@\n b\n@@ -3 +3 @@\n c\n");
        wrongAt(5, "a single LINE again", UNIFIED, NAMES + "@@ -2 +2 @@\n b\n@@ -2 +3 @@\n c\n");
        fine("LINE 1 first", UNIFIED, NAMES + "@@ -1 +1 @@\n a\n");
        sentence(16, "(\",0\": not below the last one of these; a \",0\" told the LINE of its number), else that line is WRONG");
        fine("\",0\" of the last one", UNIFIED, two + "@@ -3,0 +4 @@\n+d\n");
        wrongAt(6, "\",0\" one below", UNIFIED, two + "@@ -2,0 +4 @@\n+d\n");
        fine("\",0\" one above", UNIFIED, two + "@@ -4,0 +4 @@\n+d\n");
        String added = NAMES + "@@ -2,0 +2 @@\n+b\n";
        fine("one above a \",0\"", UNIFIED, added + "@@ -3 +4 @@\n d\n");
        wrongAt(5, "the LINE of a \",0\"", UNIFIED, added + "@@ -2 +4 @@\n d\n");
        fine("\",0\" of the LINE of a \",0\"", UNIFIED, added + "@@ -2,0 +4 @@\n+d\n");
        wrongAt(5, "\",0\" one below a \",0\"", UNIFIED, added + "@@ -1,0 +4 @@\n+d\n");
        fine("\",0\" of 0 twice", UNIFIED, NAMES + "@@ -0,0 +1 @@\n+a\n@@ -0,0 +1 @@\n+b\n");
        fine("LINE 1 behind \",0\" of 0", UNIFIED, NAMES + "@@ -0,0 +1 @@\n+a\n@@ -1 +1 @@\n b\n");
        wrongAt(6, "that line, though its LINES are WRONG, too", UNIFIED, two + "@@ -3 +4 @@\nd\n");
    }

    private static void unifiedZeros() {
        sentence(16, "A first number is 0 only with \",0\".");
        fine("a's with \",0\"", UNIFIED, NAMES + "@@ -0,0 +1 @@\n+x\n");
        wrongAt(3, "a's alone", UNIFIED, NAMES + "@@ -0 +1 @@\n x\n");
        wrongAt(3, "a's with \",2\"", UNIFIED, NAMES + "@@ -0,2 +1,2 @@\n x\n y\n");
        fine("b's with \",0\"", UNIFIED, NAMES + "@@ -1 +0,0 @@\n-x\n");
        wrongAt(3, "b's alone", UNIFIED, NAMES + "@@ -1 +0 @@\n x\n");
        wrongAt(3, "b's with \",2\"", UNIFIED, NAMES + "@@ -1,2 +0,2 @@\n x\n y\n");
        fine("\",0\" with another", UNIFIED, NAMES + "@@ -1,0 +1 @@\n+x\n");
    }

    private static void numbersOfB() {
        sentence(16, "The numbers of b don't matter.");
        fine("far above", UNIFIED, NAMES + "@@ -1 +99999 @@\n x\n");
        fine("below", UNIFIED, NAMES + "@@ -5 +1 @@\n x\n");
        fine("the same again", UNIFIED, NAMES + "@@ -1 +5 @@\n x\n@@ -2 +5 @@\n x\n");
        fine("falling", UNIFIED, NAMES + "@@ -1 +5,2 @@\n x\n+y\n@@ -2 +1 @@\n x\n");
        fine("falling, \",0\"", UNIFIED, NAMES + "@@ -1 +5,0 @@\n-x\n@@ -2 +0,0 @@\n-x\n");
    }

    private static void edCommands() {
        sentence(16, "ED: commands as told");
        fine("\"a\"", ED, "1a\nx\n.\n");
        wrongAt(1, "\"a\" with a RANGE", ED, "1,2a\nx\n.\n");
        fine("\"c\" with a RANGE", ED, "1,2c\nx\n.\n");
        for (String letter : new String[] {"b", "e", "D", "", " d", "d ", "dd", "d1", "."}) {
            wrongAt(1, "letter " + letter, ED, "1" + letter + "\n");
        }
        wrongAt(2, "a LINE behind \"d\"", ED, "1d\nx\n.\n");
        wrongAt(2, "a dot behind \"d\"", ED, "1d\n.\n");
        wrongAt(4, "a dot behind a dot", ED, "1a\nx\n.\n.\n");
    }

    private static void edOrder() {
        sentence(16, "each RANGE wholly below the first number of the command ahead of it");
        fine("one below", ED, "3d\n2d\n");
        wrongAt(2, "the same", ED, "3d\n3d\n");
        wrongAt(2, "one above", ED, "3d\n4d\n");
        fine("one below a RANGE", ED, "3,5d\n2d\n");
        wrongAt(2, "the first of a RANGE", ED, "3,5d\n3d\n");
        wrongAt(2, "within a RANGE", ED, "3,5d\n4d\n");
        fine("a RANGE one below", ED, "3d\n1,2d\n");
        wrongAt(2, "a RANGE to the same", ED, "3d\n1,3d\n");
        wrongAt(2, "a RANGE around it", ED, "3d\n2,4d\n");
        wrongAt(4, "behind a \"c\", the same", ED, "3c\nx\n.\n3d\n");
        wrongAt(3, "below the first of all, not of the one ahead", ED, "5d\n2d\n3d\n");
        sentence(16, "(\"a\" of n: n is below that number, too)");
        fine("\"a\" one below", ED, "3d\n2a\nx\n.\n");
        wrongAt(2, "\"a\" of the same", ED, "3d\n3a\nx\n.\n");
        fine("one below an \"a\"", ED, "3a\nx\n.\n2d\n");
        wrongAt(4, "the LINE of an \"a\"", ED, "3a\nx\n.\n3d\n");
        fine("\"a\" one below an \"a\"", ED, "3a\nx\n.\n2a\nx\n.\n");
        wrongAt(4, "\"a\" of the same as an \"a\"", ED, "3a\nx\n.\n3a\nx\n.\n");
        fine("\"a\" of 0 below 1", ED, "1d\n0a\nx\n.\n");
        wrongAt(4, "\"a\" of 0 twice", ED, "0a\nx\n.\n0a\nx\n.\n");
        StringBuilder all = new StringBuilder();
        for (int n = 1183; n > 0; n--) {
            all.append(n).append("d\n");
        }
        fine("as many as the TAPE takes", ED, all.toString());
        wrongAt(1184, "as many, the last one the same again", ED, all + "1d\n");
    }

    private static void edLines() {
        sentence(16, "LINES that COME, one at least, to the next \".\".");
        wrongAt(2, "\"a\" without any", ED, "1a\n.\n");
        fine("\"a\" with one", ED, "1a\nx\n.\n");
        wrongAt(2, "\"c\" without any", ED, "1c\n.\n");
        fine("\"c\" with one", ED, "1c\nx\n.\n");
        fine("one with its 10 alone", ED, "1a\n\n.\n");
        fine("two dots are a LINE", ED, "1a\n..\n.\n");
        fine("a dot and a blank are a LINE", ED, "1a\n. \n.\n");
        wrongAt(3, "two dots are no end", ED, "1a\n..\n");
        wrongAt(4, "to the next dot, not the last", ED, "1a\nx\n.\ny\n.\n");
        wrongAt(3, "a dot without a 10", ED, "1a\nx\n.");
        wrongAt(2, "a LINE without a 10", ED, "1a\nx");
    }

    private static void fault() {
        sentence(18, "Of the latest apply() or turn(): 0 why it was NONE (0 also if it wasn't), 1: the line of the TAPE that is WRONG (0 if none is)");
        Bench x = busy();
        due("not WELL FORMED", x.faults(), "1 3");
        x.text(8);
        x.keep(-1);
        x.write(0, 1, 3, 0);
        x.join(0, 0, 8);
        x.end(-1);
        due("others that are refused", x.faults(), "1 3");
        x.write(0, 1, NORMAL, 0);
        x.load();
        x.join(0, 1, 2);
        x.keep(3);
        due("others that are not", x.faults(), "1 3");
        x.apply(8, NORMAL, 0, 0);
        due("an apply() of no TEXT", x.faults(), "0 0");
        x.tape("x\n");
        x.turn(NORMAL);
        due("a turn()", x.faults(), "1 1");
        x.turn(2);
        due("a turn() of no form", x.faults(), "0 0");
        x.turn(NORMAL);
        x.tape("");
        x.turn(NORMAL);
        due("a turn() that wasn't NONE", x.faults(), "0 0");
        x.tape("9d8\n< nowhere\n");
        x.apply(0, NORMAL, 0, 1);
        due("an apply() that doesn't FIT", x.faults(), "2 0");
        x.tape("");
        x.apply(0, NORMAL, 0, 1);
        due("an apply() that wasn't NONE", x.faults(), "0 0");
        x.tape(NAMES + "@@ -1 +1 @@\n-nowhere\n+x\n");
        due("a HUNK that is REJECTED", x.apply(0, UNIFIED, 0, 1), 1);
        due("a HUNK that is REJECTED", x.faults(), "0 0");
        sentence(18, "NONE for others.");
        for (int what : new int[] {-1, 2, MIN, MAX}) {
            refused("fault " + what, busy(), b -> b.fault(what));
        }
    }
}
