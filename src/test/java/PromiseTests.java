/** Each promise by hand: ordinary inputs, the edges that the document names, and wrong inputs. */
public final class PromiseTests extends Samples {
    public static void main(String[] args) {
        promise1NewObject();
        promise2Feed();
        promise3End();
        promise4Text();
        promise5Keep();
        promise6Load();
        promise7To9Reading();
        promise10To13Script();
        promise14WriteNormal();
        promise14WriteUnified();
        promise14WriteEd();
        promise15Out();
        promise16Arguments();
        promise16Normal();
        promise16NormalWrong();
        promise16Ed();
        promise16EdWrong();
        promise16Unified();
        promise16UnifiedPlaces();
        promise16UnifiedFuzz();
        promise16UnifiedWrong();
        promise16TooLong();
        promise17Turn();
        promise18Fault();
        promise19Hunk();
        promise20Join();
        promise21Count();
        finish();
    }

    private static void promise1NewObject() {
        promise("1");
        due("NONE", DiffBench.NONE, -1);
        Bench x = new Bench();
        for (int t = 0; t < 8; t++) {
            due("size " + t, x.size(t), 0);
            due("lines " + t, x.lines(t), 0);
            due("byteAt " + t, x.byteAt(t, 0), -1);
        }
        due("tape", x.count(0), 0);
        due("out", x.count(1), 0);
        due("hunks", x.count(2), 0);
        due("out 0", x.out(0), -1);
        due("fault 0", x.fault(0), 0);
        due("fault 1", x.fault(1), 0);
        due("two objects share nothing", new DiffBench().feed(1, 2, 3, 4, 5) + x.count(0), 20);
    }

    private static void promise2Feed() {
        promise("2");
        Bench x = new Bench();
        due("feed", x.feed(0x01020304, 0xFFFEFDFC, 0x0A000A00, 0x80000000, 0x7F), 20);
        due("feed again", x.feed(5, 6, 7, 8, 0x090A0B0C), 40);
        due("text", x.text(3), 4);
        int[] bytes = {1, 2, 3, 4, 255, 254, 253, 252, 10, 0, 10, 0, 128, 0, 0, 0, 0, 0, 0, 127,
            0, 0, 0, 5, 0, 0, 0, 6, 0, 0, 0, 7, 0, 0, 0, 8, 9, 10, 11, 12};
        for (int i = 0; i < bytes.length; i++) {
            due("byte " + i, x.byteAt(3, i), bytes[i]);
        }
        for (int n = 1; n <= 300; n++) {
            due("feed " + n, x.feed(n, n, n, n, n), 20 * n);
        }
        due("feed beyond 6000", x.feed(1, 1, 1, 1, 1), -1);
        due("stays", x.count(0), 6000);
        x.end(5981);
        due("feed from 5981", x.feed(1, 1, 1, 1, 1), -1);
        x.end(5980);
        due("feed from 5980", x.feed(1, 1, 1, 1, 1), 6000);
    }

    private static void promise3End() {
        promise("3");
        Bench x = new Bench();
        due("end(0) of an empty one", x.end(0), true);
        due("end(1) of an empty one", x.end(1), false);
        x.feed(0x61626364, 0, 0, 0, 0);
        due("end(-1)", x.end(-1), false);
        due("end(21)", x.end(21), false);
        due("end(min)", x.end(Integer.MIN_VALUE), false);
        due("end(max)", x.end(Integer.MAX_VALUE), false);
        due("stays", x.count(0), 20);
        due("end(20)", x.end(20), true);
        due("all", x.count(0), 20);
        due("end(3)", x.end(3), true);
        due("end(4)", x.end(4), false);
        x.text(0);
        due("abc", x.textOf(0), "abc");
    }

    private static void promise4Text() {
        promise("4");
        Bench x = new Bench();
        x.tape("a\nb");
        due("no text -1", x.text(-1), -1);
        due("no text 8", x.text(8), -1);
        due("tape stays", x.count(0), 3);
        due("text 7", x.text(7), 2);
        due("tape is empty", x.count(0), 0);
        due("is", x.textOf(7), "a\nb");
        due("empty text", x.text(7), 0);
        due("is empty", x.size(7), 0);
        due("2000 bytes", x.put(0, "x".repeat(2000)), 1);
        due("2001 bytes", x.put(0, "y".repeat(2001)), -1);
        due("tape stays", x.count(0), 2001);
        due("text stays", x.byteAt(0, 0), 'x');
        due("200 lines", x.put(0, "\n".repeat(200)), 200);
        due("200 lines, the last open", x.put(0, "\n".repeat(199) + "z"), 200);
        due("201 lines, the last open", x.put(0, "\n".repeat(200) + "z"), -1);
        due("201 lines", x.put(0, "\n".repeat(201)), -1);
        due("text stays", x.lines(0), 200);
    }

    private static void promise5Keep() {
        promise("5");
        Bench x = new Bench();
        x.put(0, "a\nb\n");
        x.put(1, "a\nc");
        x.write(0, 1, 0, 0);
        String out = "2c2\n< b\n---\n> c\n" + MARK;
        due("written", x.outOf(), out);
        due("no text 8", x.keep(8), -1);
        due("no text -1", x.keep(-1), -1);
        due("keep", x.keep(5), 5);
        due("is", x.textOf(5), out);
        due("out stays", x.outOf(), out);
        x.put(0, "x\n".repeat(100));
        x.put(1, "y\n".repeat(100));
        x.write(0, 1, 0, 0);
        due("too many lines", x.keep(5), -1);
        due("stays", x.textOf(5), out);
        x.put(0, "");
        x.put(1, "y".repeat(1994) + "\n");
        due("2001 bytes", x.write(0, 1, 0, 0), 2001);
        due("too long", x.keep(5), -1);
        x.put(1, "y".repeat(1993) + "\n");
        due("2000 bytes", x.write(0, 1, 0, 0), 2000);
        due("just as long", x.keep(5), 2);
    }

    private static void promise6Load() {
        promise("6");
        Bench x = new Bench();
        x.feed(1, 2, 3, 4, 5);
        due("empty", x.load(), 0);
        due("tape", x.count(0), 0);
        x.put(0, "a\n");
        x.write(0, 1, 0, 0);
        x.feed(1, 2, 3, 4, 5);
        due("load", x.load(), 8);
        due("out stays", x.outOf(), "1d0\n< a\n");
        x.text(2);
        due("is", x.textOf(2), "1d0\n< a\n");
        x = new Bench();
        manyClashes(x, 6001);
        x.feed(1, 2, 3, 4, 5);
        due("load of more", x.load(), -1);
        due("tape stays", x.count(0), 20);
        x = new Bench();
        manyClashes(x, 6000);
        due("load of as many", x.load(), 6000);
        due("tape", x.count(0), 6000);
        x.put(1, "\n".repeat(200));
        x.put(2, "x".repeat(2000));
        x.join(0, 1, 2);
        x.feed(1, 2, 3, 4, 5);
        due("all of it", x.load(), x.count(1));
    }

    private static void promise7To9Reading() {
        promise("7");
        Bench x = new Bench();
        x.put(2, "ab\n\u00FF");
        due("size", x.size(2), 4);
        due("no text -1", x.size(-1), -1);
        due("no text 8", x.size(8), -1);
        promise("8");
        due("byte 0", x.byteAt(2, 0), 'a');
        due("byte 3", x.byteAt(2, 3), 255);
        due("byte 4", x.byteAt(2, 4), -1);
        due("byte -1", x.byteAt(2, -1), -1);
        due("byte min", x.byteAt(2, Integer.MIN_VALUE), -1);
        due("byte max", x.byteAt(2, Integer.MAX_VALUE), -1);
        due("no text 8", x.byteAt(8, 0), -1);
        due("no text -1", x.byteAt(-1, 0), -1);
        promise("9");
        due("lines", x.lines(2), 2);
        due("no text 8", x.lines(8), -1);
        due("no text -1", x.lines(-1), -1);
        due("ended", x.put(2, "a\nb\n"), 2);
        due("one 10", x.put(2, "\n"), 1);
    }

    private static void promise10To13Script() {
        Bench x = new Bench();
        x.put(0, "a\nb\nc\na\nb\nb\na\n");
        x.put(1, "c\nb\na\nb\na\nc\n");
        promise("10");
        due("common", x.common(0, 1), 4);
        due("common with itself", x.common(1, 1), 6);
        due("common with an empty one", x.common(0, 2), 0);
        due("no text", x.common(0, 8), -1);
        due("no text", x.common(-1, 0), -1);
        promise("11");
        int[] pairs = {0, 0, 1, 0, 2, 4, 5};
        for (int i = 0; i < pairs.length; i++) {
            due("pair " + (i + 1), x.pair(0, 1, i + 1), pairs[i]);
        }
        due("pair 0", x.pair(0, 1, 0), -1);
        due("pair 8", x.pair(0, 1, 8), -1);
        due("pair min", x.pair(0, 1, Integer.MIN_VALUE), -1);
        due("pair of no text", x.pair(0, 8, 1), -1);
        due("pair with an empty text", x.pair(0, 2, 1), 0);
        promise("12");
        due("changes", x.changes(0, 1), 4);
        due("none", x.changes(1, 1), 0);
        due("no text", x.changes(8, 1), -1);
        due("no text", x.changes(1, -1), -1);
        promise("13");
        int[][] changes = {{0, 2, 0, 0}, {3, 1, 1, 0}, {5, 0, 2, 1}, {7, 0, 5, 1}};
        for (int k = 0; k < 4; k++) {
            for (int what = 0; what < 4; what++) {
                due("change " + k + " " + what, x.change(0, 1, k, what), changes[k][what]);
            }
        }
        due("change -1", x.change(0, 1, -1, 0), -1);
        due("change 4", x.change(0, 1, 4, 0), -1);
        due("what -1", x.change(0, 1, 0, -1), -1);
        due("what 4", x.change(0, 1, 0, 4), -1);
        due("no text", x.change(0, 8, 0, 0), -1);
        promise("11");
        x.put(3, "x\n");
        x.put(4, "x");
        due("an open one is not alike", x.pair(3, 4, 1), 0);
        due("open ones are alike", x.pair(4, 4, 1), 1);
        x.put(3, "Aa\n");
        x.put(4, "BB\n");
        due("the same sum, but not alike", x.pair(3, 4, 1), 0);
        x.put(3, "p\nq\n");
        x.put(4, "q\np\n");
        due("of two ways the one that goes first", x.pair(3, 4, 1), 0);
        due("of two ways the one that goes first", x.pair(3, 4, 2), 1);
        x.put(4, "p\nq\n");
        due("after the text has changed", x.pair(3, 4, 1), 1);
        promise("13");
        x.put(3, "s\n");
        x.put(4, "y\ns\ns\n");
        due("pairs as soon as alike", x.pair(3, 4, 1), 2);
        due("two changes", x.changes(3, 4), 2);
        StringBuilder a = new StringBuilder();
        for (int n = 0; n < 100; n++) {
            a.append("=\n\n");
        }
        x.put(5, a.toString());
        x.put(6, "=\n".repeat(100));
        promise("12");
        due("a hundred", x.changes(5, 6), 100);
        x.put(6, "!\n".repeat(200));
        due("one of 400 lines", x.changes(5, 6), 1);
        due("goes", x.change(5, 6, 0, 1), 200);
        due("comes", x.change(5, 6, 0, 3), 200);
    }

    private static void promise14WriteNormal() {
        promise("14 NORMAL");
        due("same", written("a\n", "a\n", 0, 0), "");
        due("add ahead", written("c\n", "a\nb\nc\n", 0, 0), "0a1,2\n> a\n> b\n");
        due("add one behind", written("a\n", "a\nb\n", 0, -5), "1a2\n> b\n");
        due("delete", written("a\nb\nc\nd\n", "a\nd\n", 0, 99), "2,3d1\n< b\n< c\n");
        due("delete all", written("a\n", "", 0, 0), "1d0\n< a\n");
        due("change", written("a\nb\nc\n", "a\nx\ny\nc\n", 0, 0), "2c2,3\n< b\n---\n> x\n> y\n");
        due("open a", written("a\nb", "a\nb\n", 0, 0), "2c2\n< b\n" + MARK + "---\n> b\n");
        due("open b", written("a\nb\n", "a\nb", 0, 0), "2c2\n< b\n---\n> b\n" + MARK);
        due("open pair", written("x\nb", "y\nb", 0, 0), "1c1\n< x\n---\n> y\n");
        Bench x = new Bench();
        x.put(0, "a\n");
        x.write(0, 1, 0, 0);
        due("no text", x.write(0, 8, 0, 0), -1);
        due("no text", x.write(-1, 0, 0, 0), -1);
        due("no form", x.write(1, 0, 3, 0), -1);
        due("no form", x.write(1, 0, -1, 0), -1);
        due("no n", x.write(1, 0, 1, -1), -1);
        due("no n", x.write(1, 0, 1, 10), -1);
        due("out stays", x.outOf(), "1d0\n< a\n");
    }

    private static void promise14WriteUnified() {
        promise("14 UNIFIED");
        String a = "1\n2\n3\n4\n5\n6\n7\n8\n9\n";
        String b = "1\n2\nx\n4\n5\n6\n7\ny\n8\n9\n";
        String head = "--- a\n+++ b\n";
        due("same", written(a, a, 1, 3), "");
        due("n 0", written(a, b, 1, 0), head + "@@ -3 +3 @@\n-3\n+x\n@@ -7,0 +8 @@\n+y\n");
        due("n 1", written(a, b, 1, 1),
            head + "@@ -2,3 +2,3 @@\n 2\n-3\n+x\n 4\n@@ -7,2 +7,3 @@\n 7\n+y\n 8\n");
        due("n 2: four pairs between", written(a, b, 1, 2),
            head + "@@ -1,9 +1,10 @@\n 1\n 2\n-3\n+x\n 4\n 5\n 6\n 7\n+y\n 8\n 9\n");
        due("n 9", written(a, b, 1, 9), written(a, b, 1, 2));
        String c = "1\n2\nx\n4\n5\n6\n7\n8\ny\n9\n";
        due("n 2: five pairs between", written(a, c, 1, 2),
            head + "@@ -1,5 +1,5 @@\n 1\n 2\n-3\n+x\n 4\n 5\n@@ -7,3 +7,4 @@\n 7\n 8\n+y\n 9\n");
        due("all comes", written("", "p\nq\n", 1, 3), head + "@@ -0,0 +1,2 @@\n+p\n+q\n");
        due("all goes", written("p\n", "", 1, 3), head + "@@ -1 +0,0 @@\n-p\n");
        due("goes in the middle", written("1\n2\n3\n", "1\n3\n", 1, 0), head + "@@ -2 +1,0 @@\n-2\n");
        due("open", written("1\n2", "1\n2\n", 1, 1), head + "@@ -1,2 +1,2 @@\n 1\n-2\n" + MARK + "+2\n");
        due("open pair", written("x\n2", "y\n2", 1, 1), head + "@@ -1,2 +1,2 @@\n-x\n+y\n 2\n" + MARK);
        due("of a change first all that go", written("p\nq\n", "r\np\ns\n", 1, 9),
            head + "@@ -1,2 +1,3 @@\n+r\n p\n-q\n+s\n");
    }

    private static void promise14WriteEd() {
        promise("14 ED");
        due("same", written("a\n", "a\n", 2, 0), "");
        due("from the last on", written("1\n2\n3\n4\n5\n6\n", "0\n1\nx\n4\n5\n", 2, 0), "6d\n2,3c\nx\n.\n0a\n0\n.\n");
        due("range", written("1\n2\n3\n", "1\n", 2, 0), "2,3d\n");
        due("two dots", written("", "..\n", 2, 0), "0a\n..\n.\n");
        due("a dot that goes", written(".\n", "", 2, 0), "1d\n");
        due("a dot that is a pair", written(".\nx\n", ".\n", 2, 0), "2d\n");
        due("a dot that comes", written("", ".\n", 2, 0), null);
        due("open a", written("a", "b\n", 2, 0), null);
        due("open b", written("a\n", "b", 2, 0), null);
        due("both open, the same", written("a", "a", 2, 0), null);
    }

    private static void promise15Out() {
        promise("15");
        Bench x = new Bench();
        x.put(0, "\u00FE\n");
        due("bytes", x.write(0, 1, 0, 0), 8);
        due("0", x.out(0), '1');
        due("6", x.out(6), 254);
        due("7", x.out(7), 10);
        due("8", x.out(8), -1);
        due("-1", x.out(-1), -1);
        due("max", x.out(Integer.MAX_VALUE), -1);
    }

    private static void promise16Arguments() {
        promise("16 arguments");
        Bench x = new Bench();
        x.put(0, "a\n");
        x.tape("no script\n");
        int[][] none = {{-1, 0, 0, 1}, {8, 0, 0, 1}, {0, 0, 0, 8}, {0, 0, 0, -1}, {0, 3, 0, 1}, {0, -1, 0, 1},
            {0, 1, -1, 1}, {0, 1, 4, 1}};
        for (int[] n : none) {
            x.apply(0, 0, 0, 1);
            due("apply of what is none", x.apply(n[0], n[1], n[2], n[3]), -1);
            due("fault 0", x.fault(0), 0);
            due("fault 1", x.fault(1), 0);
        }
        due("tape stays", x.count(0), 10);
        x.end(0);
        due("f does not matter in NORMAL", x.apply(0, 0, -7, 1), 0);
        due("f does not matter in ED", x.apply(0, 2, 7, 2), 0);
        due("f 3 in UNIFIED", x.apply(0, 1, 3, 3), 0);
        for (int t = 0; t < 4; t++) {
            due("an empty script changes nothing", x.textOf(t), "a\n");
        }
    }

    private static void promise16Normal() {
        promise("16 NORMAL");
        due("add", applied("1\n2\n", "0a1\n> 0\n2a4,5\n> 3\n> 4\n", 0), "0\n1\n2\n3\n4\n");
        due("delete", applied("1\n2\n3\n", "1,2d0\n< 1\n< 2\n", 0), "3\n");
        due("change", applied("1\n2\n3\n", "2c2,3\n< 2\n---\n> x\n> y\n", 0), "1\nx\ny\n3\n");
        due("twice behind one line", applied("1\n", "1a2\n> x\n1a3\n> y\n", 0), "1\nx\ny\n");
        due("behind the line that went", applied("1\n2\n", "1d0\n< 1\n1a1\n> x\n", 0), "x\n2\n");
        due("not alike", applied("1\n", "1d0\n< 2\n", 0), "fault 2 0");
        due("a blank line", applied("\n1\n", "1d0\n< \n", 0), "1\n");
        due("not there", applied("1\n", "2d1\n< 2\n", 0), "fault 2 0");
        due("a behind the last", applied("1\n", "1a2\n> 2\n", 0), "1\n2\n");
        due("a beyond the last", applied("1\n", "2a3\n> 2\n", 0), "fault 2 0");
        due("open in the text alone", applied("1", "1d0\n< 1\n", 0), "fault 2 0");
        due("open in the script alone", applied("1\n", "1d0\n< 1\n" + MARK, 0), "fault 2 0");
        due("open in both", applied("1", "1c1\n< 1\n" + MARK + "---\n> 1\n", 0), "1\n");
        due("an open one comes last", applied("1\n", "1c1\n< 1\n---\n> x\n" + MARK, 0), "x");
        due("an open one comes, not last", applied("1\n2\n", "1c1\n< 1\n---\n> x\n" + MARK, 0), "x\n2\n");
        due("behind an open one", applied("1", "1a2\n> 2\n", 0), "1\n2\n");
        due("behind an open one, open", applied("1", "1a2\n> 2\n" + MARK, 0), "1\n2");
        Bench x = new Bench();
        x.put(0, "1\n");
        x.tape("1a2\n> 2\n");
        due("to itself", x.apply(0, 0, 0, 0), 0);
        due("is", x.textOf(0), "1\n2\n");
        due("tape stays", x.count(0), 8);
        due("no hunks", x.count(2), 0);
    }

    private static void promise16NormalWrong() {
        promise("16 NORMAL, WRONG");
        String text = "1\n2\n3\n4\n5\n";
        String[] firstLineWrong = {"\n", "x\n", "1\n", "a1\n", "1a\n", "1b2\n", "1a2 \n> x\n", " 1a2\n> x\n", "01a2\n> x\n", "1a02\n> x\n",
            "1,2a3\n> x\n", "1d0,1\n< 1\n", "1,1d0\n< 1\n", "2,1d0\n< 1\n", "0d0\n< x\n", "0c0\n< 1\n---\n> 2\n",
            "0,1d0\n< 1\n", "1a1\n> x\n", "1a3\n> x\n", "1d1\n< 1\n", "2c1\n< 2\n---\n> x\n", "1a2,2\n> x\n",
            "1a2,1\n> x\n", "100000a100001\n> x\n", "000001a2\n> x\n", "1a2", "00a1\n> x\n", "-1a0\n> x\n", "1,d0\n< 1\n",
            "1 a2\n> x\n", "1A2\n> x\n", "1a2\r\n> x\n", MARK};
        for (String script : firstLineWrong) {
            due(script, applied(text, script, 0), "fault 1 1");
        }
        due("a line is missing", applied(text, "1a2\n", 0), "fault 1 2");
        due("a line without a 10", applied(text, "1a2\n> x", 0), "fault 1 2");
        due("a wrong sign", applied(text, "1a2\n< x\n", 0), "fault 1 2");
        due("no blank", applied(text, "1a2\n>\n", 0), "fault 1 2");
        due("too few lines", applied(text, "1,3d0\n< 1\n< 2\n", 0), "fault 1 4");
        due("too many lines", applied(text, "1d0\n< 1\n< 2\n", 0), "fault 1 3");
        due("no ---", applied(text, "1c1\n< 1\n> x\n", 0), "fault 1 3");
        due("--- missing", applied(text, "1c1\n< 1\n", 0), "fault 1 3");
        due("---- ", applied(text, "1c1\n< 1\n----\n> x\n", 0), "fault 1 3");
        due("MARK in a row", applied(text, "1,2d0\n< 1\n" + MARK + "< 2\n", 0), "fault 1 3");
        due("MARK twice", applied(text, "1d0\n< 1\n" + MARK + MARK, 0), "fault 1 4");
        due("MARK behind a command", applied(text, "1d0\n" + MARK + "< 1\n", 0), "fault 1 2");
        due("MARK without a 10", applied(text, "1a2\n> x\n" + MARK.substring(0, 27), 0), "fault 1 3");
        due("the same line again", applied(text, "1d0\n< 1\n1d0\n< 1\n", 0), "fault 1 3");
        due("behind: a line that an a told", applied(text, "1a2\n> x\n1d1\n< 1\n", 0), "fault 1 3");
        due("a below the last one", applied(text, "3d2\n< 3\n2a3\n> x\n", 0), "fault 1 3");
        due("b's number is not where they come", applied(text, "1d0\n< 1\n3d2\n< 3\n", 0), "fault 1 3");
        due("b's number is where they come", applied(text, "1d0\n< 1\n3d1\n< 3\n", 0), "2\n4\n5\n");
        due("5 digits do not fit, but are well formed", applied(text, "99999d99998\n< x\n", 0), "fault 2 0");
        due("not well formed comes ahead of not fitting", applied(text, "1d0\n< x\nx\n", 0), "fault 1 3");
        due("a range of very many", applied(text, "1,99999d0\n< 1\n", 0), "fault 1 3");
    }

    private static void promise16Ed() {
        promise("16 ED");
        due("all", applied("1\n2\n3\n4\n5\n6\n", "6d\n2,3c\nx\n.\n0a\n0\n.\n", 2), "0\n1\nx\n4\n5\n");
        due("a behind the last", applied("1\n", "1a\n2\n.\n", 2), "1\n2\n");
        due("a beyond the last", applied("1\n", "2a\n2\n.\n", 2), "fault 2 0");
        due("d beyond the last", applied("1\n", "1,2d\n", 2), "fault 2 0");
        due("c beyond the last", applied("1\n", "2c\nx\n.\n", 2), "fault 2 0");
        due("0a of an empty text", applied("", "0a\nx\n.\n", 2), "x\n");
        due("behind an open one", applied("1", "1a\n2\n.\n", 2), "1\n2\n");
        due("an open one stays last", applied("1\n2", "1d\n", 2), "2");
        due("MARK is a line like others", applied("", "0a\n" + MARK + ".\n", 2), MARK);
        due("like commands", applied("1\n", "1c\n1d\n..\n.\n", 2), "1d\n..\n");
    }

    private static void promise16EdWrong() {
        promise("16 ED, WRONG");
        String text = "1\n2\n3\n4\n5\n";
        String[] firstLineWrong = {"\n", "d\n", "1\n", "1x\n", "1d \n", "01d\n", "2,2d\n", "3,2d\n", "1,2a\nx\n.\n",
            "0d\n", "0c\nx\n.\n", "0,1d\n", "100000d\n", "1d", ".\n", "1,d\n", ",1d\n", "1d2\n"};
        for (String script : firstLineWrong) {
            due(script, applied(text, script, 2), "fault 1 1");
        }
        due("no lines", applied(text, "1a\n.\n", 2), "fault 1 2");
        due("c without lines", applied(text, "1c\n.\n", 2), "fault 1 2");
        due("no dot", applied(text, "1a\nx\n", 2), "fault 1 3");
        due("nothing behind it", applied(text, "1a\n", 2), "fault 1 2");
        due("a dot without a 10", applied(text, "1a\nx\n.", 2), "fault 1 3");
        due("a line without a 10", applied(text, "1a\nx", 2), "fault 1 2");
        due("not below", applied(text, "2d\n2d\n", 2), "fault 1 2");
        due("range not wholly below", applied(text, "2d\n1,2d\n", 2), "fault 1 2");
        due("above", applied(text, "2d\n3d\n", 2), "fault 1 2");
        due("a not below", applied(text, "2d\n2a\nx\n.\n", 2), "fault 1 2");
        due("a below", applied(text, "2d\n1a\nx\n.\n", 2), "1\nx\n3\n4\n5\n");
        due("a, then its own line", applied(text, "2a\nx\n.\n2d\n", 2), "fault 1 4");
        due("a, then a again", applied(text, "2a\nx\n.\n2a\ny\n.\n", 2), "fault 1 4");
        due("below the first of a range", applied(text, "3,5d\n2d\n", 2), "1\n");
        due("within a range", applied(text, "3,5d\n3d\n", 2), "fault 1 2");
    }

    private static void promise16Unified() {
        promise("16 UNIFIED");
        String head = "--- x\n+++ y\n";
        due("one hunk", applied("1\n2\n3\n", head + "@@ -1,3 +1,3 @@\n 1\n-2\n+x\n 3\n", 1), "1\nx\n3\n");
        due("two hunks", applied("1\n2\n3\n", head + "@@ -1 +0,0 @@\n-1\n@@ -3 +2 @@\n-3\n+x\n", 1), "2\nx\n");
        due("into an empty text", applied("", head + "@@ -0,0 +1,2 @@\n+p\n+q\n", 1), "p\nq\n");
        due("numbers of b don't matter", applied("1\n", head + "@@ -1 +777,2 @@\n-1\n+x\n+y\n", 1), "x\ny\n");
        due("+ ahead of -", applied("1\n2\n", head + "@@ -1,2 +1,2 @@\n+x\n-1\n+y\n-2\n", 1), "x\ny\n");
        due("open pair", applied("1\n2", head + "@@ -1,2 +1,3 @@\n 1\n+x\n 2\n" + MARK, 1), "1\nx\n2");
        due("opened", applied("2\n", head + "@@ -1 +1 @@\n-2\n+2\n" + MARK, 1), "2");
        due("opened, but not the last", applied("2\n3\n", head + "@@ -1 +1 @@\n-2\n+2\n" + MARK, 1), "2\n3\n");
        due("closed", applied("2", head + "@@ -1 +1 @@\n-2\n" + MARK + "+2\n", 1), "2\n");
        due("open in the text alone", applied("2", head + "@@ -1 +1 @@\n-2\n+x\n", 1), "1 rejected: 2");
        due("open in the script alone", applied("2\n", head + "@@ -1 +1 @@\n-2\n" + MARK + "+x\n", 1), "1 rejected: 2\n");
        due("behind an open one", applied("2", head + "@@ -1,0 +2 @@\n+3\n", 1), "2\n3\n");
        due("MARK ahead of other lines", applied("2\n", head + "@@ -1 +1,3 @@\n+p\n" + MARK + "+q\n" + MARK + " 2\n", 1), "p\nq\n2\n");
        due("names of any kind", applied("1\n", "--- \n+++ \n@@ -1 +0,0 @@\n-1\n", 1), "");
        due("one is rejected, one not", applied("1\n2\n", head + "@@ -1 +0,0 @@\n-x\n@@ -2 +1 @@\n-2\n+y\n", 1), "1 rejected: 1\ny\n");
        due("two rejected", applied("1\n2\n", head + "@@ -1 +0,0 @@\n-x\n@@ -2 +1 @@\n-z\n+y\n", 1), "2 rejected: 1\n2\n");
    }

    private static void promise16UnifiedPlaces() {
        promise("16 PLACES");
        String head = "--- x\n+++ y\n";
        Bench x = new Bench();
        x.put(0, "=\n1\n=\n2\n=\n3\n=\n");
        due("more by the distance first", hunks(x, head + "@@ -4 +4 @@\n-=\n+z\n", 0), "0: 4 1 0");
        due("is", x.textOf(1), "=\n1\n=\n2\nz\n3\n=\n");
        due("a distance 0", hunks(x, head + "@@ -3 +4 @@\n-=\n+z\n", 0), "0: 2 0 0");
        due("less by it", hunks(x, head + "@@ -99999 +4 @@\n-=\n+z\n", 0), "0: 6 -99992 0");
        due("far beyond, and back with its shift",
            hunks(x, head + "@@ -5001 +4 @@\n-1\n+z\n@@ -5003 +4 @@\n-2\n+y\n", 0), "0: 1 -4999 0, 3 -4999 0");
        due("with the shift of the latest", hunks(x, head + "@@ -1 +1 @@\n-1\n+z\n@@ -2 +2 @@\n-=\n+y\n", 0),
            "0: 1 1 0, 2 1 0");
        due("not the shift of a rejected one",
            hunks(x, head + "@@ -1 +1 @@\n-1\n+z\n@@ -2 +2 @@\n-q\n@@ -4 +2 @@\n-=\n+y\n".replace("+2 @@\n-q", "+1,0 @@\n-q"), 0),
            "1: 1 1 0, -1 0 0, 4 1 0");
        due("none ahead of the end of the one placed latest",
            hunks(x, head + "@@ -1 +0,0 @@\n-2\n@@ -2 +0,0 @@\n-1\n", 0), "1: 3 3 0, -1 0 0");
        due("right behind the end", hunks(x, head + "@@ -1 +0,0 @@\n-2\n@@ -2,2 +0,0 @@\n-=\n-3\n", 0), "0: 3 3 0, 4 3 0");
        due("no old lines: as many ahead", hunks(x, head + "@@ -3,0 +4 @@\n+z\n", 0), "0: 3 0 0");
        due("is", x.textOf(1), "=\n1\n=\nz\n2\n=\n3\n=\n");
        due("no old lines: at the end", hunks(x, head + "@@ -7,0 +8 @@\n+z\n", 0), "0: 7 0 0");
        due("no old lines: beyond the end", hunks(x, head + "@@ -9,0 +8 @@\n+z\n", 0), "0: 7 -2 0");
        due("no old lines: not ahead of that end",
            hunks(x, head + "@@ -1 +0,0 @@\n-3\n@@ -1,0 +1 @@\n+z\n", 0), "0: 5 5 0, 6 5 0");
        due("twice at one place", hunks(x, head + "@@ -3,0 +4 @@\n+z\n@@ -3,0 +4 @@\n+y\n", 0), "0: 3 0 0, 3 0 0");
        due("is", x.textOf(1), "=\n1\n=\nz\ny\n2\n=\n3\n=\n");
        due("more old lines than the text has", hunks(x, head + "@@ -1,8 +0,0 @@\n-=\n-1\n-=\n-2\n-=\n-3\n-=\n-=\n", 0), "1: -1 0 0");
    }

    private static void promise16UnifiedFuzz() {
        promise("16 FUZZ");
        String head = "--- x\n+++ y\n";
        Bench x = new Bench();
        x.put(0, "a\nb\nc\nd\ne\nf\ng\n");
        String hunk = head + "@@ -2,5 +2,5 @@\n X\n c\n-d\n+D\n e\n Y\n";
        due("0", hunks(x, hunk, 0), "1: -1 0 0");
        due("1", hunks(x, hunk, 1), "0: 2 0 1");
        due("is", x.textOf(1), "a\nb\nc\nD\ne\nf\ng\n");
        due("3 gives the least", hunks(x, hunk, 3), "0: 2 0 1");
        String deep = head + "@@ -1,7 +1,7 @@\n X\n Y\n Z\n-d\n+D\n U\n V\n W\n";
        due("2 is too little", hunks(x, deep, 2), "1: -1 0 0");
        due("3", hunks(x, deep, 3), "0: 3 0 3");
        due("is", x.textOf(1), "a\nb\nc\nD\ne\nf\ng\n");
        due("as many as there are", hunks(x, head + "@@ -4,4 +4,4 @@\n-d\n+D\n U\n V\n W\n", 3), "0: 3 0 3");
        due("a sign ahead of the blanks keeps them", hunks(x, head + "@@ -3,2 +3,2 @@\n-c\n+C\n X\n+y\n".replace("+3,2", "+3,3"), 3), "1: -1 0 0");
        due("pure insertion among strange lines", hunks(x, head + "@@ -3,2 +3,3 @@\n X\n+n\n Y\n", 1), "0: 3 0 1");
        due("is", x.textOf(1), "a\nb\nc\nn\nd\ne\nf\ng\n");
        due("fuzz 0 far away goes ahead of fuzz 1 near",
            hunks(x, head + "@@ -2,2 +2,2 @@\n f\n-g\n+G\n", 1), "0: 5 4 0");
        due("all blanks", hunks(x, head + "@@ -3,3 +3,3 @@\n X\n Y\n Z\n", 2), "0: 4 0 2");
        due("is", x.textOf(1), "a\nb\nc\nd\ne\nf\ng\n");
        due("the shift leaves out what was left out",
            hunks(x, head + "@@ -1,3 +1,3 @@\n X\n-d\n+D\n Y\n@@ -4 +4 @@\n-f\n+F\n", 1), "0: 3 2 1, 5 2 0");
        due("the end is without what was left out",
            hunks(x, head + "@@ -2,3 +2,3 @@\n b\n-c\n+C\n X\n@@ -5 +5 @@\n-d\n+D\n", 1), "0: 2 0 1, 3 -1 0");
        x.put(0, "a\nb");
        due("an open blank is left out", hunks(x, head + "@@ -1,2 +1,2 @@\n-a\n+A\n b\n", 1), "0: 0 0 1");
        due("is", x.textOf(1), "A\nb");
    }

    private static void promise16UnifiedWrong() {
        promise("16 UNIFIED, WRONG");
        String head = "--- x\n+++ y\n";
        String text = "1\n2\n3\n";
        due("no first line", applied(text, "@@ -1 +1 @@\n-1\n+x\n", 1), "fault 1 1");
        due("--- without a blank", applied(text, "---\n+++ y\n@@ -1 +1 @@\n-1\n+x\n", 1), "fault 1 1");
        due("the first line alone", applied(text, "--- x\n", 1), "fault 1 2");
        due("--- without a 10", applied(text, "--- x", 1), "fault 1 1");
        due("+++ without a blank", applied(text, "--- x\n+++\n", 1), "fault 1 2");
        due("no hunk", applied(text, head, 1), "fault 1 3");
        String[] headWrong = {"@@ -1 +1 @@", "@@ -1,1 +1 @@\n", "@@ -1 +1,1 @@\n", "@@ -0 +1 @@\n", "@@ -1 +0 @@\n", "@@ -0,2 +1 @@\n",
            "@@ -1 +0,2 @@\n", "@@ -1,0 +1,0 @@\n", "@@ -01 +1 @@\n", "@@ -1 +1 @@ \n", "@@ -1 +1 @@x\n", "@@ -1  +1 @@\n", "@@ +1 -1 @@\n",
            "@@-1 +1 @@\n", "@@ -1,00 +1 @@\n", "@@ -1, +1 @@\n", "@@ -100000 +1 @@\n", "@@ -1 +1@@\n", "@@ -1 +1 @\n", "@ -1 +1 @@\n",
            "@@ -1 @@\n", " 1\n", "\n", MARK};
        for (String line : headWrong) {
            due(line, applied(text, head + line + "-1\n+x\n", 1), "fault 1 3");
        }
        due("no lines", applied(text, head + "@@ -1 +1 @@\n", 1), "fault 1 4");
        due("a line is missing", applied(text, head + "@@ -1 +1 @@\n-1\n", 1), "fault 1 5");
        due("a line without a 10", applied(text, head + "@@ -1 +1 @@\n-1\n+x", 1), "fault 1 5");
        due("no sign", applied(text, head + "@@ -1 +1 @@\n\n", 1), "fault 1 4");
        due("another sign", applied(text, head + "@@ -1 +1 @@\n*1\n", 1), "fault 1 4");
        due("too many of a", applied(text, head + "@@ -1 +1 @@\n-1\n-2\n+x\n", 1), "fault 1 5");
        due("too many of b", applied(text, head + "@@ -1 +1 @@\n+1\n+2\n-1\n", 1), "fault 1 5");
        due("a blank with none of a left", applied(text, head + "@@ -1 +1 @@\n-1\n 2\n", 1), "fault 1 5");
        due("a blank with none of b left", applied(text, head + "@@ -1 +1 @@\n+1\n 2\n", 1), "fault 1 5");
        due("more behind it", applied(text, head + "@@ -1 +1 @@\n-1\n+x\n 2\n", 1), "fault 1 6");
        due("MARK ahead of the lines", applied(text, head + "@@ -1 +1 @@\n" + MARK + "-1\n+x\n", 1), "fault 1 4");
        due("MARK twice", applied(text, head + "@@ -1 +1 @@\n-1\n" + MARK + MARK + "+x\n", 1), "fault 1 6");
        due("MARK without a 10", applied(text, head + "@@ -1 +1 @@\n-1\n+x\n" + MARK.substring(0, 27), 1), "fault 1 6");
        String first = head + "@@ -2,2 +2,2 @@\n 2\n 3\n";
        due("not above", applied(text, first + "@@ -3 +3 @@\n 3\n", 1), "fault 1 6");
        due("above", applied(text, first + "@@ -4 +4 @@\n 3\n", 1), "1 rejected: 1\n2\n3\n");
        due(",0 below", applied(text, first + "@@ -2,0 +3 @@\n+3\n", 1), "fault 1 6");
        due(",0 not below", applied(text, first + "@@ -3,0 +3 @@\n+4\n", 1), "1\n2\n3\n4\n");
        String added = head + "@@ -2,0 +3 @@\n+x\n";
        due("the number of a ,0", applied(text, added + "@@ -2 +2 @@\n-2\n+y\n", 1), "fault 1 5");
        due("the number of a ,0 with a ,0", applied(text, added + "@@ -2,0 +2 @@\n+y\n", 1), "1\n2\nx\ny\n3\n");
        due("above the number of a ,0", applied(text, added + "@@ -3 +3 @@\n-3\n+y\n", 1), "1\n2\nx\ny\n");
    }

    private static void promise16TooLong() {
        promise("16 too long");
        Bench x = new Bench();
        x.put(0, "\n".repeat(199));
        x.put(1, "old");
        x.tape("0a1\n> x\n");
        due("200 lines", x.apply(0, 0, 0, 2), 0);
        due("201 lines", x.apply(2, 0, 0, 1), -1);
        due("fault 0", x.fault(0), 3);
        due("fault 1", x.fault(1), 0);
        due("stays", x.textOf(1), "old");
        x.put(0, "y".repeat(1997) + "\n");
        x.tape("0a1\n> x\n");
        due("2000 bytes", x.apply(0, 0, 0, 2), 0);
        x.put(0, "y".repeat(1998) + "\n");
        x.tape("0a1\n> x\n");
        due("2001 bytes", x.apply(0, 0, 0, 1), -1);
        due("fault 0", x.fault(0), 3);
        x = new Bench();
        x.put(0, "y".repeat(1998));
        x.tape("1a2\n> x\n" + MARK);
        due("2000 bytes with the 10 that comes", x.apply(0, 0, 0, 2), 0);
        due("size", x.size(2), 2000);
        x.put(0, "y".repeat(1999));
        x.tape("1a2\n> x\n" + MARK);
        due("2001 bytes with the 10 that comes", x.apply(0, 0, 0, 1), -1);
        due("fault 0", x.fault(0), 3);
        x.tape("0a\n" + "z".repeat(5000) + "\n.\n");
        due("far too long", x.apply(0, 2, 0, 1), -1);
        due("fault 0", x.fault(0), 3);
        x.put(3, "1\n");
        x.tape("--- a\n+++ b\n@@ -1 +1 @@\n-1\n+2\n");
        due("hunk", x.apply(3, 1, 0, 4), 0);
        x.put(3, "\n".repeat(200));
        x.tape("--- a\n+++ b\n@@ -1,0 +1 @@\n+2\n@@ -2,0 +1 @@\n+2\n");
        due("too long in UNIFIED", x.apply(3, 1, 0, 4), -1);
        due("fault 0", x.fault(0), 3);
        due("hunks stay", x.count(2), 1);
        due("the place stays", x.hunk(0, 0), 0);
        due("stays", x.textOf(4), "2\n");
    }

    private static void promise17Turn() {
        promise("17");
        due("a", turned("1a2,3\n> x\n> y\n", 0), "2,3d1\n< x\n< y\n");
        due("d", turned("2,3d1\n< x\n< y\n", 0), "1a2,3\n> x\n> y\n");
        due("c", turned("2,3c2\n< x\n< y\n---\n> z\n" + MARK, 0), "2c2,3\n< z\n" + MARK + "---\n> x\n> y\n");
        due("two", turned("1d0\n< 1\n1a1\n> x\n", 0), "0a1\n> 1\n1d1\n< x\n");
        due("empty", turned("", 0), "");
        due("empty", turned("", 1), "");
        due("names", turned("--- p q\n+++ \n@@ -1,2 +7 @@\n-x\n 2\n", 1), "--- \n+++ p q\n@@ -7 +1,2 @@\n+x\n 2\n");
        due("rows", turned("--- a\n+++ b\n@@ -1,6 +1,5 @@\n+1\n-2\n" + MARK + "+3\n-4\n 5\n-6\n-7\n+8\n 9\n", 1),
            "--- b\n+++ a\n@@ -1,5 +1,6 @@\n-1\n-3\n+2\n" + MARK + "+4\n 5\n-8\n+6\n+7\n 9\n");
        due("hunks", turned("--- a\n+++ b\n@@ -1 +0,0 @@\n-1\n@@ -3,0 +3 @@\n+x\n", 1),
            "--- b\n+++ a\n@@ -0,0 +1 @@\n+1\n@@ -3 +3,0 @@\n-x\n");
        Bench x = new Bench();
        x.put(0, "a\n");
        x.write(0, 1, 0, 0);
        x.tape("1a\n");
        due("not well formed", x.turn(0), -1);
        due("fault 0", x.fault(0), 1);
        due("fault 1", x.fault(1), 1);
        due("no form 2", x.turn(2), -1);
        due("fault 0", x.fault(0), 0);
        due("fault 1", x.fault(1), 0);
        due("no form -1", x.turn(-1), -1);
        due("no form 3", x.turn(3), -1);
        due("out stays", x.outOf(), "1d0\n< a\n");
        due("tape stays", x.count(0), 3);
        x.tape("--- a\n+++ b\n@@ -1 +1 @@\n-1\n+2\n");
        int size = x.count(0);
        due("turn", x.turn(1), size);
        due("tape stays", x.count(0), size);
        due("texts stay", x.textOf(0), "a\n");
    }

    private static void promise18Fault() {
        promise("18");
        Bench x = new Bench();
        due("what -1", x.fault(-1), -1);
        due("what 2", x.fault(2), -1);
        x.tape("1d0\n< 1\nx\n");
        x.apply(0, 0, 0, 1);
        due("1", x.fault(0), 1);
        due("line 3", x.fault(1), 3);
        x.text(9);
        x.write(9, 9, 9, 9);
        due("others tell nothing", x.fault(1), 3);
        x.end(8);
        x.turn(0);
        due("turn went well", x.fault(0), 0);
        due("no line", x.fault(1), 0);
        x.apply(0, 0, 0, 1);
        due("2", x.fault(0), 2);
        due("no line", x.fault(1), 0);
        x.end(0);
        x.apply(0, 0, 0, 1);
        due("went well", x.fault(0), 0);
    }

    private static void promise19Hunk() {
        promise("19");
        Bench x = new Bench();
        due("none", x.hunk(0, 0), -1);
        x.put(0, "1\n2\n3\n");
        due("apply", hunks(x, "--- a\n+++ b\n@@ -1 +1 @@\n-2\n+x\n@@ -5 +5 @@\n-q\n+y\n", 0), "1: 1 1 0, -1 0 0");
        due("k 2", x.hunk(2, 0), -1);
        due("k -1", x.hunk(-1, 0), -1);
        due("k max", x.hunk(Integer.MAX_VALUE, 0), -1);
        due("what 3", x.hunk(0, 3), -1);
        due("what -1", x.hunk(0, -1), -1);
        x.tape("--- a\n+++ b\n@@ -1 +1 @@\n");
        x.apply(0, 1, 0, 1);
        due("one that was NONE changes nothing", x.hunk(0, 0), 1);
        x.turn(1);
        x.tape("1d\n");
        due("ED", x.apply(0, 2, 0, 1), 0);
        due("one of ED changes nothing", x.hunk(0, 0), 1);
        x.end(0);
        due("an empty script", x.apply(0, 1, 0, 1), 0);
        due("has no hunks", x.hunk(0, 0), -1);
        due("has no hunks", x.count(2), 0);
    }

    private static void promise20Join() {
        promise("20");
        due("all the same", joined("1\n2\n", "1\n2\n", "1\n2\n"), "0: 1\n2\n");
        due("a alone", joined("1\n2\n3\n", "1\nx\n3\n", "1\n2\n3\n"), "0: 1\nx\n3\n");
        due("b alone", joined("1\n2\n3\n", "1\n2\n3\n", "1\n3\ny\n"), "0: 1\n3\ny\n");
        due("both, apart", joined("1\n2\n3\n", "x\n2\n3\n", "1\n2\ny\n"), "0: x\n2\ny\n");
        due("both the same", joined("1\n2\n3\n", "1\nx\n3\n", "1\nx\n3\n"), "0: 1\nx\n3\n");
        due("a clash", joined("1\n2\n3\n", "1\nx\n3\n", "1\ny\nz\n3\n"), "1: 1\n<<<<<<<\nx\n=======\ny\nz\n>>>>>>>\n3\n");
        due("a clash with none of a", joined("2\n", "", "y\n"), "1: <<<<<<<\n=======\ny\n>>>>>>>\n");
        due("a clash with none of b", joined("2\n", "y", ""), "1: <<<<<<<\ny\n=======\n>>>>>>>\n");
        due("two clashes", joined("1\n2\n3\n", "x\n2\ny\n", "p\n2\nq\n"),
            "2: <<<<<<<\nx\n=======\np\n>>>>>>>\n2\n<<<<<<<\ny\n=======\nq\n>>>>>>>\n");
        due("changes with no anchor between are one part", joined("1\n2\n", "x\n2\n", "1\ny\n"),
            "1: <<<<<<<\nx\n2\n=======\n1\ny\n>>>>>>>\n");
        due("open ones in a clash", joined("1\n2", "1\nx", "1\ny"), "1: 1\n<<<<<<<\nx\n=======\ny\n>>>>>>>\n");
        due("an open one last", joined("1\n2\n", "1\n2", "1\n2\n"), "0: 1\n2");
        due("an open anchor", joined("1\n2", "x\n2", "1\n2"), "0: x\n2");
        due("of nothing", joined("", "", ""), "0: ");
        due("both add the same", joined("", "x", "x"), "0: x");
        due("both add", joined("", "x", "y\n"), "1: <<<<<<<\nx\n=======\ny\n>>>>>>>\n");
        Bench x = new Bench();
        x.put(0, "a\n");
        x.write(0, 1, 0, 0);
        due("no text", x.join(8, 0, 0), -1);
        due("no text", x.join(0, -1, 0), -1);
        due("no text", x.join(0, 0, 8), -1);
        due("out stays", x.outOf(), "1d0\n< a\n");
        due("with itself", x.join(0, 0, 0), 0);
        due("is", x.outOf(), "a\n");
        manyClashes(x, 100 * (2 + 24 + 36));
    }

    private static void promise21Count() {
        promise("21");
        Bench x = new Bench();
        due("what -1", x.count(-1), -1);
        due("what 3", x.count(3), -1);
        x.put(0, "1\n");
        due("out", x.write(0, 1, 0, 0), 8);
        due("1", x.count(1), 8);
        x.tape("--- a\n+++ b\n@@ -1 +1 @@\n-1\n+x\n@@ -5 +5 @@\n-q\n+y\n");
        due("0", x.count(0), 48);
        x.apply(0, 1, 0, 1);
        due("2", x.count(2), 2);
        x.apply(0, 0, 0, 1);
        due("still 2", x.count(2), 2);
    }
}
