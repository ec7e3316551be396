/** The boundary cases of the promises that hold bytes: 1 to 9, 15 and 21, and section 1 of the terms. */
public final class TextBoundaries extends Samples {
    public static void main(String[] args) {
        newObject();
        callsOfAnObject();
        bytesOfFeed();
        tapeFullByFeed();
        endOfTape();
        whichTextByText();
        lengthOfText();
        linesOfText();
        openLines();
        whichTextByKeep();
        lengthOfKeep();
        load();
        loadOfFullTape();
        sizeAndLines();
        byteAt();
        out();
        count();
        finish();
    }

    private static void newObject() {
        sentence(1, "Empty TEXTS, TAPE, OUT.");
        Bench x = new Bench();
        for (int t = 0; t < 8; t++) {
            due("size " + t, x.size(t), 0);
            due("lines " + t, x.lines(t), 0);
            due("byteAt " + t, x.byteAt(t, 0), -1);
        }
        due("bytes on the TAPE", x.count(0), 0);
        due("bytes of OUT", x.count(1), 0);
        due("out(0)", x.out(0), -1);
        due("common", x.common(0, 7), 0);
        due("changes", x.changes(0, 7), 0);
        due("pair 1", x.pair(0, 7, 1), -1);
        due("change 0", x.change(0, 7, 0, 0), -1);
        for (int form = 0; form < 3; form++) {
            due("write in form " + form, x.write(0, 7, form, 0), 0);
            due("apply in form " + form, x.apply(0, form, 0, 7), 0);
        }
        due("turn NORMAL", x.turn(NORMAL), 0);
        due("turn UNIFIED", x.turn(UNIFIED), 0);
        due("join", x.join(0, 1, 7), 0);
        due("load", x.load(), 0);
        due("text", x.text(7), 0);
        due("keep", x.keep(0), 0);
        due("end(1)", x.end(1), false);
        due("end(0)", x.end(0), true);
        sentence(18, "both 0 ahead of any");
        due("faults", new Bench().faults(), "0 0");
        sentence(19, "NONE if there is none such");
        due("hunk of a new object", new Bench().hunk(0, 1), -1);
        sentence(21, "2 HUNKS of the latest apply() of UNIFIED that wasn't NONE");
        due("hunks of a new object", new Bench().count(2), 0);
    }

    private static void callsOfAnObject() {
        sentence(2, "An object is used for at most 512 calls after it has been made");
        DiffBench x = new DiffBench();
        for (int n = 1; n <= 508; n++) {
            due("call " + n, x.feed(n, n, n, n, n), n <= 300 ? 20 * n : -1);
        }
        due("call 509", x.end(20), true);
        due("call 510", x.text(7), 1);
        due("call 511", x.size(7), 20);
        due("call 512", x.byteAt(7, 19), 1);
    }

    private static void bytesOfFeed() {
        sentence(2, "Twenty BYTES come behind those on the TAPE, of each number the highest first");
        Bench x = new Bench();
        due("numbers at their ends", x.feed(MIN, MAX, -1, 0, 0x0180FF7F), 20);
        due("end(18)", x.end(18), true);
        due("behind 18 of them", x.feed(0x0B0C0D0E, 1, 2, 3, 0x0F10F1FE), 38);
        due("text", x.text(0), 1);
        int[] due = {128, 0, 0, 0, 127, 255, 255, 255, 255, 255, 255, 255, 0, 0, 0, 0, 1, 128,
            11, 12, 13, 14, 0, 0, 0, 1, 0, 0, 0, 2, 0, 0, 0, 3, 15, 16, 241, 254};
        for (int i = 0; i < due.length; i++) {
            due("byte " + i, x.byteAt(0, i), due[i]);
        }
        due("byte 38", x.byteAt(0, 38), -1);
    }

    private static void tapeFullByFeed() {
        sentence(2, "how many there are; NONE when there would be more than 6000");
        String script = "0a1\n> " + "0123456789".repeat(599) + "zzz\n";
        Bench x = new Bench();
        x.tape(script.substring(0, 5980));
        due("up to 6000", x.feed(1, 2, 3, 4, 5), 6000);
        x = new Bench();
        x.tape(script.substring(0, 5981));
        refused("up to 6001", x, b -> b.feed(1, 2, 3, 4, 5));
        x = new Bench();
        x.tape(script);
        due("full", x.count(0), 6000);
        refused("up to 6020", x, b -> b.feed(1, 2, 3, 4, 5));
        due("the TAPE to its last byte", x.turn(NORMAL), 6000);
        due("the TAPE to its last byte", x.outOf(), "1d0\n< " + script.substring(6));
    }

    private static void endOfTape() {
        sentence(3, "The TAPE has its first n BYTES alone: true; false when it has not so many, or n is below 0.");
        Bench x = busy();
        String tape = x.tapeOf();
        for (int n : new int[] {tape.length() + 1, -1, MIN, MAX, 6000, 6001}) {
            refused("end(" + n + ")", x, b -> b.end(n) ? 1 : DiffBench.NONE);
        }
        due("all of them", x.end(tape.length()), true);
        due("all of them", x.tapeOf(), tape);
        due("one less", x.end(tape.length() - 1), true);
        due("one less", x.tapeOf(), tape.substring(0, tape.length() - 1));
        due("what has gone does not come again", x.end(tape.length()), false);
        due("1", x.end(1), true);
        due("1", x.tapeOf(), tape.substring(0, 1));
        due("none", x.end(0), true);
        due("none", x.count(0), 0);
        due("1 of none", x.end(1), false);
        due("-1 of none", x.end(-1), false);
        due("none of none", x.end(0), true);
    }

    private static void whichTextByText() {
        sentence(4, "A TEXT becomes what is on the TAPE (which is empty then): how many LINES it has.");
        for (int t : new int[] {0, 7}) {
            Bench x = busy();
            String before = x.textOf(7 - t);
            x.tape("p\nq\nr");
            due("text " + t, x.text(t), 3);
            due("TEXT " + t, x.textOf(t), "p\nq\nr");
            due("TEXT " + (7 - t), x.textOf(7 - t), before);
            due("the TAPE", x.count(0), 0);
            due("of an empty TAPE", x.text(t), 0);
            due("TEXT " + t, x.size(t), 0);
        }
        sentence(4, "NONE if there is no such TEXT");
        for (int t : NO_TEXTS) {
            refused("text " + t, busy(), b -> b.text(t));
        }
    }

    private static void lengthOfText() {
        sentence(4, "or it would be too long");
        sentence(4, "of at most 2000 BYTES and 200 LINES each");
        for (int lines : new int[] {0, 1, 200}) {
            String most = block('x', 2000, lines);
            Bench x = new Bench();
            due("2000 bytes", x.put(3, most), Math.max(1, lines));
            due("2000 bytes", x.size(3), 2000);
            due("2000 bytes", x.textOf(3), most);
            due("the TAPE", x.count(0), 0);
        }
        for (String more : new String[] {"x".repeat(2001), block('x', 2001, 1), block('x', 2001, 200), "x".repeat(6000)}) {
            Bench x = busy();
            x.tape(more);
            refused(more.length() + " bytes", x, b -> b.text(3));
        }
    }

    private static void linesOfText() {
        sentence(4, "of at most 2000 BYTES and 200 LINES each");
        String[] most = {"\n".repeat(200), "\n".repeat(199) + "z", block('x', 1999, 199) + "z"};
        for (String lines : most) {
            Bench x = new Bench();
            due("200 lines", x.put(3, lines), 200);
            due("200 lines", x.lines(3), 200);
            due("200 lines", x.textOf(3), lines);
        }
        String[] more = {"\n".repeat(201), "\n".repeat(200) + "z", block('x', 2000, 201), "\n".repeat(2000)};
        for (String lines : more) {
            Bench x = busy();
            x.tape(lines);
            refused("more than 200 lines", x, b -> b.text(3));
        }
    }

    private static void openLines() {
        sentence(9, "A TEXT's LINES end behind each BYTE 10; the last one may be OPEN, that is without it.");
        String[] texts = {"", "a", "\n", "a\n", "a\nb", "a\nb\n", "\n\n", "\na", "a\n\n", "\u000B\t\r\f\u0085"};
        int[] lines = {0, 1, 1, 1, 2, 2, 2, 2, 2, 1};
        for (int n = 0; n < texts.length; n++) {
            Bench x = new Bench();
            due("text of the " + n + "th", x.put(0, texts[n]), lines[n]);
            due("lines of the " + n + "th", x.lines(0), lines[n]);
        }
    }

    private static void whichTextByKeep() {
        sentence(5, "A TEXT becomes what OUT is (which stays): how many LINES.");
        for (int t : new int[] {0, 7}) {
            Bench x = busy();
            String out = x.outOf();
            String tape = x.tapeOf();
            due("keep " + t, x.keep(t), out.split("\n").length);
            due("TEXT " + t, x.textOf(t), out);
            due("OUT", x.outOf(), out);
            due("the TAPE", x.tapeOf(), tape);
        }
        Bench open = new Bench();
        open.put(2, "a\nb");
        open.join(0, 1, 2);
        due("an OPEN LINE", open.keep(3), 2);
        due("an OPEN LINE", open.textOf(3), "a\nb");
        open.join(0, 1, 4);
        due("an empty OUT", open.keep(3), 0);
        due("an empty OUT", open.size(3), 0);
        sentence(5, "NONE likewise.");
        for (int t : NO_TEXTS) {
            refused("keep " + t, busy(), b -> b.keep(t));
        }
    }

    private static void lengthOfKeep() {
        sentence(5, "NONE likewise.");
        Bench x = new Bench();
        clashOf(x, 2000, 10);
        due("2000 bytes", x.keep(7), 10);
        due("2000 bytes", x.size(7), 2000);
        due("OUT", x.count(1), 2000);
        x = new Bench();
        x.put(7, "as it was");
        clashOf(x, 2001, 10);
        refused("2001 bytes", x, b -> b.keep(7));
        x = new Bench();
        clashOf(x, 1000, 200);
        due("200 lines", x.keep(7), 200);
        due("200 lines", x.size(7), 1000);
        x = new Bench();
        x.put(7, "as it was");
        clashOf(x, 1000, 201);
        refused("201 lines", x, b -> b.keep(7));
    }

    private static void load() {
        sentence(6, "The TAPE becomes what OUT is (which stays): how many BYTES");
        Bench x = busy();
        String out = x.outOf();
        due("load", x.load(), out.length());
        due("the TAPE", x.tapeOf(), out);
        due("OUT", x.outOf(), out);
        x.put(0, "");
        x.join(0, 0, 0);
        x.tape("longer than OUT, which is empty");
        due("an empty OUT", x.load(), 0);
        due("the TAPE", x.count(0), 0);
        due("no BYTE of what was on it", x.end(1), false);
    }

    private static void loadOfFullTape() {
        sentence(6, "NONE if these are more than 6000");
        Bench x = new Bench();
        manyClashes(x, 6000);
        due("6000", x.load(), 6000);
        due("the TAPE", x.count(0), 6000);
        due("the TAPE", x.tapeOf(), x.outOf().substring(0, 200));
        due("OUT", x.count(1), 6000);
        x = new Bench();
        manyClashes(x, 6001);
        x.tape("as it was");
        refused("6001", x, Bench::load);
    }

    private static void sizeAndLines() {
        Bench x = new Bench();
        x.put(0, "a\nb");
        x.put(7, "a\nb\nc\n");
        sentence(7, "BYTES of a TEXT; NONE if there is none such.");
        due("size 0", x.size(0), 3);
        due("size 7", x.size(7), 6);
        due("size of an empty one", x.size(1), 0);
        sentence(9, "LINES of a TEXT; NONE if there is none such.");
        due("lines 0", x.lines(0), 2);
        due("lines 7", x.lines(7), 3);
        due("lines of an empty one", x.lines(1), 0);
        for (int t : NO_TEXTS) {
            sentence(7, "BYTES of a TEXT; NONE if there is none such.");
            refused("size " + t, busy(), b -> b.size(t));
            sentence(9, "LINES of a TEXT; NONE if there is none such.");
            refused("lines " + t, busy(), b -> b.lines(t));
        }
    }

    private static void byteAt() {
        sentence(8, "BYTE i of a TEXT (from 0 on); NONE without.");
        Bench x = new Bench();
        x.put(0, "ab\u00FF");
        x.put(7, "\u0000" + "m".repeat(1998) + "z");
        due("the first", x.byteAt(0, 0), 'a');
        due("the last", x.byteAt(0, 2), 255);
        due("behind the last", x.byteAt(0, 3), -1);
        due("the first of 2000", x.byteAt(7, 0), 0);
        due("the last of 2000", x.byteAt(7, 1999), 'z');
        due("behind 2000", x.byteAt(7, 2000), -1);
        due("of an empty one", x.byteAt(1, 0), -1);
        x.put(7, "s");
        due("the last of a TEXT that was longer", x.byteAt(7, 0), 's');
        due("behind the last of a TEXT that was longer", x.byteAt(7, 1), -1);
        for (int i : new int[] {-1, MIN, MAX}) {
            due("byte " + i, x.byteAt(0, i), -1);
            due("byte " + i, x.byteAt(7, i), -1);
        }
        for (int t : NO_TEXTS) {
            refused("TEXT " + t, busy(), b -> b.byteAt(t, 0));
        }
    }

    private static void out() {
        sentence(15, "BYTE i of OUT; NONE without.");
        Bench x = new Bench();
        x.put(1, "\u00FEb\u0080");
        due("of an empty OUT", x.out(0), -1);
        x.join(0, 0, 1);
        due("the first", x.out(0), 254);
        due("the last", x.out(2), 128);
        due("behind the last", x.out(3), -1);
        for (int i : new int[] {-1, MIN, MAX, 19999, 20000}) {
            due("byte " + i, x.out(i), -1);
        }
        x.put(1, "s");
        x.join(0, 0, 1);
        due("the last of an OUT that was longer", x.out(0), 's');
        due("behind the last of an OUT that was longer", x.out(1), -1);
        x = new Bench();
        manyClashes(x, 6200);
        due("the last of 6200", x.out(6199), 10);
        due("ahead of it", x.out(6198), '>');
        due("behind the last of 6200", x.out(6200), -1);
    }

    private static void count() {
        sentence(21, "0 BYTES on the TAPE, 1 of OUT, 2 HUNKS of the latest apply() of UNIFIED that wasn't NONE.");
        Bench x = busy();
        due("0", x.count(0), x.tapeOf().length());
        due("1", x.count(1), "2c2\n< 1\n---\n> 2\n4c4\n< open\n".length() + MARK.length() + "---\n> end\n".length());
        due("2", x.count(2), 2);
        sentence(21, "NONE for others.");
        for (int what : new int[] {-1, 3, MIN, MAX}) {
            refused("count " + what, busy(), b -> b.count(what));
        }
    }
}
