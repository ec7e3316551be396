/**
 * A bench for differences of texts: the shortest script of lines between two texts, written in
 * three forms, read again, applied, turned round, and two heirs of one text joined.
 *
 * Lines are counted from 0 inside, so that a line's index is also how many lines are ahead of it.
 * A line is a slice of a row of bytes; a slice that does not end with a 10 is an open line.
 */
public final class DiffBench {
    public static final int NONE = -1;

    private static final int TEXTS = 8;
    private static final int MOST_TEXT_BYTES = 2000;
    private static final int MOST_LINES = 200;
    private static final int MOST_TAPE_BYTES = 6000;
    private static final int MOST_OUT_BYTES = 20000;
    private static final int FED_BYTES = 20;
    private static final int MOST_AROUND = 9;
    private static final int MOST_FUZZ = 3;
    private static final int MOST_DIGITS = 5;
    private static final int ABOVE_ALL_NUMBERS = 100000;
    /** The shortest command, "1d" of ED with its 10, has three bytes. */
    private static final int MOST_COMMANDS = MOST_TAPE_BYTES / 3;
    /** The shortest head of a hunk, "@@ -1 +1 @@" with its 10, has twelve bytes. */
    private static final int MOST_HUNKS = MOST_TAPE_BYTES / 12;

    private static final int NORMAL = 0;
    private static final int UNIFIED = 1;
    private static final int ED = 2;

    private static final int NOT_WELL_FORMED = 1;
    private static final int DOES_NOT_FIT = 2;
    private static final int TOO_LONG = 3;

    private static final int NEWLINE = 10;
    private static final char NO_SIGN = 0;
    private static final char NO_LETTER = 0;
    private static final String MARK = "\\ No newline at end of file\n";

    private final Text[] texts = new Text[TEXTS];
    private final Bytes tape = new Bytes(MOST_TAPE_BYTES);
    private final Bytes output = new Bytes(MOST_OUT_BYTES);
    private final Comparison comparison;
    private final ScriptWriter writer;
    private final Joiner joiner;
    private final Script script = new Script(tape);
    private final CommandReader commandReader = new CommandReader(tape, script);
    private final UnifiedReader unifiedReader = new UnifiedReader(tape, script);
    private final Applier applier = new Applier(script);
    private Hunks latestHunks = new Hunks();
    private Hunks triedHunks = new Hunks();
    private int faultReason;
    private int faultLine;

    public DiffBench() {
        for (int t = 0; t < TEXTS; t++) {
            texts[t] = new Text();
        }
        comparison = new Comparison(texts[0]);
        writer = new ScriptWriter(comparison, output);
        joiner = new Joiner(comparison, output);
    }

    public int feed(int a, int b, int c, int d, int e) {
        if (tape.length + FED_BYTES > MOST_TAPE_BYTES) {
            return NONE;
        }
        tape.addFour(a);
        tape.addFour(b);
        tape.addFour(c);
        tape.addFour(d);
        tape.addFour(e);
        return tape.length;
    }

    public boolean end(int n) {
        if (n < 0 || n > tape.length) {
            return false;
        }
        tape.length = n;
        return true;
    }

    public int text(int t) {
        if (!isText(t) || !texts[t].become(tape)) {
            return NONE;
        }
        tape.empty();
        return texts[t].lineCount;
    }

    public int keep(int t) {
        return isText(t) && texts[t].become(output) ? texts[t].lineCount : NONE;
    }

    public int load() {
        if (output.length > MOST_TAPE_BYTES) {
            return NONE;
        }
        tape.empty();
        tape.addSlice(output, 0, output.length);
        return tape.length;
    }

    public int size(int t) {
        return isText(t) ? texts[t].bytes.length : NONE;
    }

    public int byteAt(int t, int i) {
        return isText(t) ? texts[t].bytes.at(i) : NONE;
    }

    public int lines(int t) {
        return isText(t) ? texts[t].lineCount : NONE;
    }

    public int common(int a, int b) {
        return compareTexts(a, b) ? comparison.commonLines() : NONE;
    }

    public int pair(int a, int b, int i) {
        return compareTexts(a, b) ? comparison.partnerOf(i) : NONE;
    }

    public int changes(int a, int b) {
        return compareTexts(a, b) ? comparison.changeCount : NONE;
    }

    public int change(int a, int b, int k, int what) {
        return compareTexts(a, b) ? comparison.changeFact(k, what) : NONE;
    }

    public int write(int a, int b, int form, int n) {
        if (!isForm(form) || (form == UNIFIED && (n < 0 || n > MOST_AROUND)) || !compareTexts(a, b)) {
            return NONE;
        }
        if (form == NORMAL) {
            writer.writeNormal();
        } else if (form == UNIFIED) {
            writer.writeUnified(n);
        } else if (writer.canBeEd()) {
            writer.writeEd();
        } else {
            return NONE;
        }
        return output.length;
    }

    public int out(int i) {
        return output.at(i);
    }

    public int apply(int t, int form, int f, int u) {
        tellFault(0, 0);
        if (!isText(t) || !isText(u) || !isForm(form) || (form == UNIFIED && (f < 0 || f > MOST_FUZZ))) {
            return NONE;
        }
        int wrongLine = readTape(form);
        if (wrongLine != 0) {
            return tellFault(NOT_WELL_FORMED, wrongLine);
        }
        int rejected = 0;
        if (form == UNIFIED) {
            rejected = applier.applyHunks(texts[t], f, triedHunks);
        } else if (!applier.applyCommands(texts[t], form == ED)) {
            return tellFault(DOES_NOT_FIT, 0);
        }
        if (!texts[u].become(applier.result)) {
            return tellFault(TOO_LONG, 0);
        }
        if (form == UNIFIED) {
            keepTriedHunks();
        }
        return rejected;
    }

    public int turn(int form) {
        tellFault(0, 0);
        if (form != NORMAL && form != UNIFIED) {
            return NONE;
        }
        int wrongLine = readTape(form);
        if (wrongLine != 0) {
            return tellFault(NOT_WELL_FORMED, wrongLine);
        }
        if (form == NORMAL) {
            script.turnNormal(output);
        } else {
            script.turnUnified(output);
        }
        return output.length;
    }

    public int fault(int what) {
        return what == 0 ? faultReason : what == 1 ? faultLine : NONE;
    }

    public int hunk(int k, int what) {
        return latestHunks.fact(k, what);
    }

    public int join(int o, int a, int b) {
        if (!isText(o) || !isText(a) || !isText(b)) {
            return NONE;
        }
        return joiner.joinHeirs(texts[o], texts[a], texts[b]);
    }

    public int count(int what) {
        return what == 0 ? tape.length : what == 1 ? output.length : what == 2 ? latestHunks.total : NONE;
    }

    private boolean isText(int t) {
        return t >= 0 && t < TEXTS;
    }

    private boolean isForm(int form) {
        return form == NORMAL || form == UNIFIED || form == ED;
    }

    private boolean compareTexts(int a, int b) {
        if (!isText(a) || !isText(b)) {
            return false;
        }
        comparison.compare(texts[a], texts[b]);
        return true;
    }

    /** Answers the line that is wrong, or 0. */
    private int readTape(int form) {
        if (form == UNIFIED) {
            return unifiedReader.readScript();
        }
        return form == ED ? commandReader.readEd() : commandReader.readNormal();
    }

    private int tellFault(int reason, int line) {
        faultReason = reason;
        faultLine = line;
        return NONE;
    }

    /** The two rows change places, so that a refused apply() leaves the latest hunks as they are. */
    private void keepTriedHunks() {
        Hunks earlier = latestHunks;
        latestHunks = triedHunks;
        triedHunks = earlier;
    }

    /** A row of bytes up to a limit; what would go beyond it is left out, and spilled tells so. */
    private static final class Bytes {
        private final byte[] row;
        private int length;
        private boolean spilled;
        private boolean endsOpen;

        Bytes(int limit) {
            row = new byte[Math.max(0, limit)];
        }

        void empty() {
            length = 0;
            spilled = false;
            endsOpen = false;
        }

        int at(int i) {
            return i >= 0 && i < length && i < row.length ? row[i] & 255 : NONE;
        }

        boolean isOpen(int from, int to) {
            return to <= from || at(to - 1) != NEWLINE;
        }

        boolean isAlike(int from, int to, Bytes other, int otherFrom, int otherTo) {
            int size = to - from;
            if (size != otherTo - otherFrom || !hasSlice(from, to) || !other.hasSlice(otherFrom, otherTo)) {
                return false;
            }
            for (int i = 0; i < size; i++) {
                if (row[from + i] != other.row[otherFrom + i]) {
                    return false;
                }
            }
            return true;
        }

        boolean hasSlice(int from, int to) {
            return from >= 0 && from <= to && to <= length;
        }

        void add(int value) {
            if (length >= 0 && length < row.length) {
                row[length] = (byte) value;
                length++;
            } else {
                spilled = true;
            }
        }

        void addFour(int value) {
            add(value >>> 24);
            add(value >>> 16);
            add(value >>> 8);
            add(value);
        }

        void addText(String text) {
            for (int i = 0; i < text.length(); i++) {
                add(text.charAt(i));
            }
        }

        void addNumber(int number) {
            for (int unit = ABOVE_ALL_NUMBERS; unit >= 1; unit /= 10) {
                if (number >= unit || unit == 1) {
                    add('0' + number / unit % 10);
                }
            }
        }

        void addSlice(Bytes from, int start, int end) {
            if (!from.hasSlice(start, end)) {
                return;
            }
            int size = end - start;
            if (length < 0 || size > row.length - length) {
                spilled = true;
                return;
            }
            System.arraycopy(from.row, start, row, length, size);
            length += size;
        }

        /** As a text takes it: an open line gets its 10 only when another line comes behind it. */
        void addLine(Bytes from, int start, int end) {
            closeLine();
            addSlice(from, start, end);
            endsOpen = from.isOpen(start, end);
        }

        void closeLine() {
            if (endsOpen) {
                add(NEWLINE);
            }
            endsOpen = false;
        }

        void addLines(Text text, int first, int behind) {
            for (int line = first; line < behind; line++) {
                addLine(text.bytes, text.startOf(line), text.startOf(line + 1));
            }
        }

        /** As a script takes it: an open line gets its 10 and the mark behind it. */
        void addWritten(String sign, Bytes from, int start, int end) {
            addText(sign);
            addSlice(from, start, end);
            if (from.isOpen(start, end)) {
                add(NEWLINE);
                addText(MARK);
            }
        }

        /** RANGE of NORMAL and ED: the first number and the last one. */
        void addRange(int first, int size) {
            addNumber(first);
            if (size > 1) {
                add(',');
                addNumber(first + size - 1);
            }
        }

        /** RANGE of UNIFIED: the first number and how many. */
        void addCountedRange(int first, int size) {
            addNumber(first);
            if (size != 1) {
                add(',');
                addNumber(size);
            }
        }

        void addHunkHead(int aFirst, int aCount, int bFirst, int bCount) {
            addText("@@ -");
            addCountedRange(aFirst, aCount);
            addText(" +");
            addCountedRange(bFirst, bCount);
            addText(" @@\n");
        }
    }

    /** A text and where its lines begin. */
    private static final class Text {
        private final Bytes bytes = new Bytes(MOST_TEXT_BYTES);
        private final int[] start = new int[MOST_LINES];
        /** Lines that are alike have the same sum; most others are told apart by it at once. */
        private final int[] sum = new int[MOST_LINES];
        private int lineCount;
        /** Tells a comparison that is kept whether the text has changed since. */
        private int version;

        /** Refuses, and stays as it is, when it would be too long. */
        boolean become(Bytes source) {
            if (source.spilled || source.length > MOST_TEXT_BYTES || countLines(source) > MOST_LINES) {
                return false;
            }
            bytes.empty();
            bytes.addSlice(source, 0, source.length);
            findLines();
            version++;
            return true;
        }

        int startOf(int line) {
            return line >= 0 && line < lineCount ? start[line] : bytes.length;
        }

        boolean endsOpen() {
            return bytes.length > 0 && bytes.isOpen(0, bytes.length);
        }

        boolean hasLine(int line, Bytes other, int from, int to) {
            return line >= 0 && line < lineCount
                && bytes.isAlike(startOf(line), startOf(line + 1), other, from, to);
        }

        boolean isAlike(int line, Text other, int otherLine) {
            return line >= 0 && line < lineCount && otherLine >= 0 && otherLine < other.lineCount
                && sum[line] == other.sum[otherLine]
                && bytes.isAlike(startOf(line), startOf(line + 1),
                    other.bytes, other.startOf(otherLine), other.startOf(otherLine + 1));
        }

        private static int countLines(Bytes source) {
            int found = 0;
            for (int i = 0; i < source.length; i++) {
                if (source.at(i) == NEWLINE || i == source.length - 1) {
                    found++;
                }
            }
            return found;
        }

        private void findLines() {
            lineCount = 0;
            int begin = 0;
            int total = 0;
            for (int i = 0; i < bytes.length && lineCount < MOST_LINES; i++) {
                total = total * 31 + bytes.at(i);
                if (bytes.at(i) == NEWLINE || i == bytes.length - 1) {
                    start[lineCount] = begin;
                    sum[lineCount] = total;
                    lineCount++;
                    begin = i + 1;
                    total = 0;
                }
            }
        }
    }

    /** The SCRIPT of one text to another, kept until other texts are asked for. */
    private static final class Comparison {
        private static final int STRIDE = MOST_LINES + 1;

        private final int[] longest = new int[STRIDE * STRIDE];
        /** Of each line of a: the number of b's line, from 1 on; 0 if it goes. */
        private final int[] partner = new int[MOST_LINES];
        private final int[] aAhead = new int[MOST_LINES + 1];
        private final int[] goes = new int[MOST_LINES + 1];
        private final int[] bAhead = new int[MOST_LINES + 1];
        private final int[] comes = new int[MOST_LINES + 1];
        private int changeCount;
        private Text a;
        private Text b;
        private int aVersion = NONE;
        private int bVersion = NONE;

        Comparison(Text any) {
            a = any;
            b = any;
        }

        void compare(Text from, Text to) {
            if (from == a && to == b && from.version == aVersion && to.version == bVersion) {
                return;
            }
            a = from;
            b = to;
            aVersion = from.version;
            bVersion = to.version;
            fillLongest();
            walk();
        }

        int commonLines() {
            return longest[0];
        }

        int partnerOf(int number) {
            return number >= 1 && number <= a.lineCount ? partner[number - 1] : NONE;
        }

        int changeFact(int k, int what) {
            if (k < 0 || k >= changeCount) {
                return NONE;
            }
            switch (what) {
                case 0: return aAhead[k];
                case 1: return goes[k];
                case 2: return bAhead[k];
                case 3: return comes[k];
                default: return NONE;
            }
        }

        int pairsBehind(int k) {
            int next = k + 1 < changeCount ? aAhead[k + 1] : a.lineCount;
            return next - aAhead[k] - goes[k];
        }

        private void fillLongest() {
            for (int j = 0; j <= b.lineCount; j++) {
                longest[a.lineCount * STRIDE + j] = 0;
            }
            for (int i = a.lineCount - 1; i >= 0; i--) {
                int here = i * STRIDE;
                longest[here + b.lineCount] = 0;
                for (int j = b.lineCount - 1; j >= 0; j--) {
                    longest[here + j] = a.isAlike(i, b, j)
                        ? longest[here + STRIDE + j + 1] + 1
                        : Math.max(longest[here + STRIDE + j], longest[here + j + 1]);
                }
            }
        }

        private void walk() {
            changeCount = 0;
            boolean inChange = false;
            int i = 0;
            int j = 0;
            for (int n = a.lineCount + b.lineCount; n > 0 && (i < a.lineCount || j < b.lineCount); n--) {
                boolean isPair = a.isAlike(i, b, j);
                if (!isPair && !inChange) {
                    beginChange(i, j);
                }
                inChange = !isPair;
                if (isPair) {
                    partner[i] = j + 1;
                    i++;
                    j++;
                } else if (goesAt(i, j)) {
                    partner[i] = 0;
                    goes[changeCount - 1]++;
                    i++;
                } else {
                    comes[changeCount - 1]++;
                    j++;
                }
            }
        }

        private boolean goesAt(int i, int j) {
            return i < a.lineCount
                && (j >= b.lineCount || longest[(i + 1) * STRIDE + j] >= longest[i * STRIDE + j + 1]);
        }

        private void beginChange(int i, int j) {
            aAhead[changeCount] = i;
            bAhead[changeCount] = j;
            goes[changeCount] = 0;
            comes[changeCount] = 0;
            changeCount++;
        }
    }

    /** Writes the SCRIPT of a comparison. */
    private static final class ScriptWriter {
        private final Comparison found;
        private final Bytes out;

        ScriptWriter(Comparison found, Bytes out) {
            this.found = found;
            this.out = out;
        }

        void writeNormal() {
            out.empty();
            for (int k = 0; k < found.changeCount; k++) {
                addCommandRange(found.aAhead[k], found.goes[k]);
                out.add(found.goes[k] == 0 ? 'a' : found.comes[k] == 0 ? 'd' : 'c');
                addCommandRange(found.bAhead[k], found.comes[k]);
                out.add(NEWLINE);
                addGoing("< ", k);
                if (found.goes[k] > 0 && found.comes[k] > 0) {
                    out.addText("---\n");
                }
                addComing("> ", k);
            }
        }

        void writeUnified(int around) {
            out.empty();
            if (found.changeCount > 0) {
                out.addText("--- a\n+++ b\n");
            }
            int first = 0;
            for (int k = 0; k < found.changeCount; k++) {
                if (k + 1 == found.changeCount || found.pairsBehind(k) > 2 * around) {
                    addHunk(first, k, around);
                    first = k + 1;
                }
            }
        }

        boolean canBeEd() {
            if (found.a.endsOpen() || found.b.endsOpen()) {
                return false;
            }
            for (int k = 0; k < found.changeCount; k++) {
                for (int n = 0; n < found.comes[k]; n++) {
                    if (isDot(found.bAhead[k] + n)) {
                        return false;
                    }
                }
            }
            return true;
        }

        void writeEd() {
            out.empty();
            for (int k = found.changeCount - 1; k >= 0; k--) {
                addCommandRange(found.aAhead[k], found.goes[k]);
                out.add(found.goes[k] == 0 ? 'a' : found.comes[k] == 0 ? 'd' : 'c');
                out.add(NEWLINE);
                addComing("", k);
                if (found.comes[k] > 0) {
                    out.addText(".\n");
                }
            }
        }

        private boolean isDot(int line) {
            int from = found.b.startOf(line);
            return found.b.startOf(line + 1) == from + 2
                && found.b.bytes.at(from) == '.' && found.b.bytes.at(from + 1) == NEWLINE;
        }

        private void addCommandRange(int ahead, int size) {
            if (size == 0) {
                out.addNumber(ahead);
            } else {
                out.addRange(ahead + 1, size);
            }
        }

        private void addHunk(int first, int last, int around) {
            int lead = Math.min(around, found.aAhead[first]);
            int tail = Math.min(around, found.pairsBehind(last));
            int aFrom = found.aAhead[first] - lead;
            int bFrom = found.bAhead[first] - lead;
            int aTo = found.aAhead[last] + found.goes[last] + tail;
            int bTo = found.bAhead[last] + found.comes[last] + tail;
            out.addHunkHead(firstNumber(aFrom, aTo), aTo - aFrom, firstNumber(bFrom, bTo), bTo - bFrom);
            int line = aFrom;
            for (int k = first; k <= last; k++) {
                addWrittenLines(" ", found.a, line, found.aAhead[k]);
                addGoing("-", k);
                addComing("+", k);
                line = found.aAhead[k] + found.goes[k];
            }
            addWrittenLines(" ", found.a, line, aTo);
        }

        private static int firstNumber(int from, int to) {
            return from == to ? from : from + 1;
        }

        private void addGoing(String sign, int k) {
            addWrittenLines(sign, found.a, found.aAhead[k], found.aAhead[k] + found.goes[k]);
        }

        private void addComing(String sign, int k) {
            addWrittenLines(sign, found.b, found.bAhead[k], found.bAhead[k] + found.comes[k]);
        }

        private void addWrittenLines(String sign, Text text, int from, int to) {
            for (int line = from; line < to; line++) {
                out.addWritten(sign, text.bytes, text.startOf(line), text.startOf(line + 1));
            }
        }
    }

    /** Goes through the tape line by line, and through a line piece by piece. */
    private static final class TapeReader {
        private final Bytes tape;
        /** The line that is being read, from 1 on; where reading fails, it is the wrong one. */
        private int number;
        private int at;
        private int end;

        TapeReader(Bytes tape) {
            this.tape = tape;
        }

        void rewind() {
            number = 0;
            at = 0;
            end = 0;
        }

        boolean isAtEnd() {
            return end >= tape.length;
        }

        /** False when there is no further line, or it has no 10. */
        boolean nextLine() {
            number++;
            at = end;
            for (int i = at; i < tape.length; i++) {
                if (tape.at(i) == NEWLINE) {
                    end = i + 1;
                    return true;
                }
            }
            return false;
        }

        boolean take(String piece) {
            if (!stands(piece, at)) {
                return false;
            }
            at += piece.length();
            return true;
        }

        /** The sign of a line of UNIFIED, or NO_SIGN. */
        char takeSign() {
            int sign = tape.at(at);
            if (sign != ' ' && sign != '-' && sign != '+') {
                return NO_SIGN;
            }
            at++;
            return (char) sign;
        }

        /** Goes on to the next line only if that one is the mark. */
        boolean takeMark() {
            return stands(MARK, end) && nextLine();
        }

        int takeNumber() {
            int first = tape.at(at);
            int value = 0;
            int digits = 0;
            while (digits < MOST_DIGITS && tape.at(at) >= '0' && tape.at(at) <= '9') {
                value = value * 10 + tape.at(at) - '0';
                digits++;
                at++;
            }
            return digits == 0 || (digits > 1 && first == '0') ? NONE : value;
        }

        /** The last number of a RANGE of NORMAL or ED, whose first one has been taken. */
        int takeLast(int first) {
            if (!take(",")) {
                return first;
            }
            int last = takeNumber();
            return last > first ? last : NONE;
        }

        private boolean stands(String piece, int from) {
            if (!tape.hasSlice(from, from + piece.length())) {
                return false;
            }
            for (int i = 0; i < piece.length(); i++) {
                if (tape.row[from + i] != piece.charAt(i)) {
                    return false;
                }
            }
            return true;
        }
    }

    /**
     * A script that was read: its commands (or HUNKS), and their lines as slices of the tape, with
     * the signs of UNIFIED in every form.
     */
    private static final class Script {
        private final Bytes tape;
        private final int[] aFirst = new int[MOST_COMMANDS];
        private final int[] aCount = new int[MOST_COMMANDS];
        private final int[] bFirst = new int[MOST_COMMANDS];
        private final int[] bCount = new int[MOST_COMMANDS];
        private final int[] firstLine = new int[MOST_COMMANDS];
        private int commandCount;
        private final char[] sign = new char[MOST_TAPE_BYTES];
        private final int[] from = new int[MOST_TAPE_BYTES];
        private final int[] to = new int[MOST_TAPE_BYTES];
        private int lineCount;
        private int aNameFrom;
        private int aNameTo;
        private int bNameFrom;
        private int bNameTo;

        Script(Bytes tape) {
            this.tape = tape;
        }

        void empty() {
            commandCount = 0;
            lineCount = 0;
        }

        void addCommand(int aNumber, int aSize, int bNumber, int bSize) {
            if (commandCount < MOST_COMMANDS) {
                aFirst[commandCount] = aNumber;
                aCount[commandCount] = aSize;
                bFirst[commandCount] = bNumber;
                bCount[commandCount] = bSize;
                firstLine[commandCount] = lineCount;
                commandCount++;
            }
        }

        void addLine(char lineSign, int start, int end) {
            if (lineCount < MOST_TAPE_BYTES) {
                sign[lineCount] = lineSign;
                from[lineCount] = start;
                to[lineCount] = end;
                lineCount++;
            }
        }

        void openLastLine() {
            if (lineCount > 0) {
                to[lineCount - 1]--;
            }
        }

        /** How many lines of a are ahead: a number that tells no lines is that of the line ahead. */
        int aheadOf(int k) {
            return aCount[k] == 0 ? aFirst[k] : aFirst[k] - 1;
        }

        int behindLines(int k) {
            return k + 1 < commandCount ? firstLine[k + 1] : lineCount;
        }

        void turnNormal(Bytes out) {
            out.empty();
            for (int k = 0; k < commandCount; k++) {
                out.addRange(bFirst[k], bCount[k]);
                out.add(bCount[k] == 0 ? 'a' : aCount[k] == 0 ? 'd' : 'c');
                out.addRange(aFirst[k], aCount[k]);
                out.add(NEWLINE);
                addSigned(out, firstLine[k], behindLines(k), '+', "< ");
                if (aCount[k] > 0 && bCount[k] > 0) {
                    out.addText("---\n");
                }
                addSigned(out, firstLine[k], behindLines(k), '-', "> ");
            }
        }

        void turnUnified(Bytes out) {
            out.empty();
            if (commandCount > 0) {
                out.addText("--- ");
                out.addSlice(tape, bNameFrom, bNameTo);
                out.addText("+++ ");
                out.addSlice(tape, aNameFrom, aNameTo);
            }
            for (int k = 0; k < commandCount; k++) {
                out.addHunkHead(bFirst[k], bCount[k], aFirst[k], aCount[k]);
                turnLines(out, firstLine[k], behindLines(k));
            }
        }

        private void turnLines(Bytes out, int first, int behind) {
            int rowBegin = first;
            for (int line = first; line <= behind; line++) {
                if (line == behind || sign[line] == ' ') {
                    addSigned(out, rowBegin, line, '+', "-");
                    addSigned(out, rowBegin, line, '-', "+");
                    addSigned(out, line, Math.min(line + 1, behind), ' ', " ");
                    rowBegin = line + 1;
                }
            }
        }

        private void addSigned(Bytes out, int first, int behind, char had, String becomes) {
            for (int line = first; line < behind; line++) {
                if (sign[line] == had) {
                    out.addWritten(becomes, tape, from[line], to[line]);
                }
            }
        }
    }

    /** Reads the forms that are made of commands: NORMAL and ED. */
    private static final class CommandReader {
        private final TapeReader in;
        private final Script script;
        private int lastTold;
        private int shift;
        private int firstOfCommandAhead;

        CommandReader(Bytes tape, Script script) {
            in = new TapeReader(tape);
            this.script = script;
        }

        /** Answers the line that is wrong, or 0. */
        int readNormal() {
            in.rewind();
            script.empty();
            lastTold = 0;
            shift = 0;
            for (int n = 0; n < MOST_COMMANDS && !in.isAtEnd(); n++) {
                if (!readNormalCommand()) {
                    return in.number;
                }
            }
            return 0;
        }

        /** Answers the line that is wrong, or 0. */
        int readEd() {
            in.rewind();
            script.empty();
            firstOfCommandAhead = ABOVE_ALL_NUMBERS;
            for (int n = 0; n < MOST_COMMANDS && !in.isAtEnd(); n++) {
                if (!readEdCommand()) {
                    return in.number;
                }
            }
            return 0;
        }

        private boolean readNormalCommand() {
            if (!in.nextLine()) {
                return false;
            }
            int first = in.takeNumber();
            int last = in.takeLast(first);
            char letter = takeLetter();
            int bFirst = in.takeNumber();
            int bLast = in.takeLast(bFirst);
            if (first == NONE || last == NONE || bFirst == NONE || bLast == NONE || !in.take("\n")) {
                return false;
            }
            int goes = letter == 'a' ? 0 : last - first + 1;
            int comes = letter == 'd' ? 0 : bLast - bFirst + 1;
            if (!isShape(letter, first, last) || (letter == 'd' && bLast != bFirst)
                || first < lastTold + (letter == 'a' ? 0 : 1) || bFirst != bDue(letter, first)) {
                return false;
            }
            script.addCommand(first, goes, bFirst, comes);
            lastTold = last;
            shift += comes - goes;
            return readRow("< ", '-', goes)
                && (letter != 'c' || (in.nextLine() && in.take("---\n")))
                && readRow("> ", '+', comes);
        }

        private int bDue(char letter, int first) {
            return first + shift + (letter == 'a' ? 1 : letter == 'd' ? -1 : 0);
        }

        private char takeLetter() {
            return in.take("a") ? 'a' : in.take("c") ? 'c' : in.take("d") ? 'd' : NO_LETTER;
        }

        /** Only "a" names a place, so only "a" may tell a 0, and it tells no RANGE with ",". */
        private static boolean isShape(char letter, int first, int last) {
            return letter == 'a' ? first == last : letter != NO_LETTER && first > 0;
        }

        private boolean readRow(String lineBegin, char sign, int size) {
            for (int n = 0; n < size; n++) {
                if (!in.nextLine() || !in.take(lineBegin)) {
                    return false;
                }
                script.addLine(sign, in.at, in.end);
            }
            if (size > 0 && in.takeMark()) {
                script.openLastLine();
            }
            return true;
        }

        private boolean readEdCommand() {
            if (!in.nextLine()) {
                return false;
            }
            int first = in.takeNumber();
            int last = in.takeLast(first);
            char letter = takeLetter();
            if (first == NONE || last == NONE || !isShape(letter, first, last)
                || !in.take("\n") || last >= firstOfCommandAhead) {
                return false;
            }
            firstOfCommandAhead = first;
            script.addCommand(first, letter == 'a' ? 0 : last - first + 1, 0, 0);
            return letter == 'd' || readToDot();
        }

        private boolean readToDot() {
            for (int n = 0; n <= MOST_TAPE_BYTES; n++) {
                if (!in.nextLine()) {
                    return false;
                }
                if (in.take(".\n")) {
                    return n > 0;
                }
                script.addLine('+', in.at, in.end);
            }
            return false;
        }
    }

    /** Reads UNIFIED. */
    private static final class UnifiedReader {
        private final TapeReader in;
        private final Script script;
        private int lastTold;
        private int rangeFirst;
        private int rangeCount;

        UnifiedReader(Bytes tape, Script script) {
            in = new TapeReader(tape);
            this.script = script;
        }

        /** Answers the line that is wrong, or 0. */
        int readScript() {
            in.rewind();
            script.empty();
            lastTold = 0;
            if (in.isAtEnd()) {
                return 0;
            }
            if (!readNames()) {
                return in.number;
            }
            for (int n = 0; n < MOST_HUNKS && (n == 0 || !in.isAtEnd()); n++) {
                if (!readHunk()) {
                    return in.number;
                }
            }
            return 0;
        }

        private boolean readNames() {
            if (!in.nextLine() || !in.take("--- ")) {
                return false;
            }
            script.aNameFrom = in.at;
            script.aNameTo = in.end;
            if (!in.nextLine() || !in.take("+++ ")) {
                return false;
            }
            script.bNameFrom = in.at;
            script.bNameTo = in.end;
            return true;
        }

        private boolean readHunk() {
            if (!in.nextLine() || !in.take("@@ -") || !takeRange()) {
                return false;
            }
            int aFirst = rangeFirst;
            int aCount = rangeCount;
            if (!in.take(" +") || !takeRange() || !in.take(" @@\n")) {
                return false;
            }
            int lowest = aCount == 0 ? lastTold : lastTold + 1;
            if (aFirst < lowest || (aCount == 0 && rangeCount == 0)) {
                return false;
            }
            lastTold = aFirst + Math.max(aCount, 1) - 1;
            script.addCommand(aFirst, aCount, rangeFirst, rangeCount);
            return readLines(aCount, rangeCount);
        }

        private boolean takeRange() {
            rangeFirst = in.takeNumber();
            rangeCount = 1;
            if (in.take(",")) {
                rangeCount = in.takeNumber();
                if (rangeCount == NONE || rangeCount == 1) {
                    return false;
                }
            }
            return rangeFirst > 0 || (rangeFirst == 0 && rangeCount == 0);
        }

        private boolean readLines(int aCount, int bCount) {
            int aLeft = aCount;
            int bLeft = bCount;
            for (int n = 0; n < aCount + bCount && (aLeft > 0 || bLeft > 0); n++) {
                if (!in.nextLine()) {
                    return false;
                }
                char sign = in.takeSign();
                aLeft -= sign == '+' ? 0 : 1;
                bLeft -= sign == '-' ? 0 : 1;
                if (sign == NO_SIGN || aLeft < 0 || bLeft < 0) {
                    return false;
                }
                script.addLine(sign, in.at, in.end);
                if (in.takeMark()) {
                    script.openLastLine();
                }
            }
            return true;
        }
    }

    /** Where the hunks of one apply() were placed. */
    private static final class Hunks {
        private final int[] place = new int[MOST_HUNKS];
        private final int[] shift = new int[MOST_HUNKS];
        private final int[] fuzz = new int[MOST_HUNKS];
        private int total;

        void add(int itsPlace, int itsShift, int itsFuzz) {
            if (total < MOST_HUNKS) {
                place[total] = itsPlace;
                shift[total] = itsShift;
                fuzz[total] = itsFuzz;
                total++;
            }
        }

        int fact(int k, int what) {
            if (k < 0 || k >= total) {
                return NONE;
            }
            return what == 0 ? place[k] : what == 1 ? shift[k] : what == 2 ? fuzz[k] : NONE;
        }
    }

    /** Applies the script that was read to a text; what comes is its result. */
    private static final class Applier {
        private final Script script;
        private final Bytes result = new Bytes(MOST_TEXT_BYTES);
        /** How many lines of the text are in the result already, or have been replaced. */
        private int done;
        /** What is left of the hunk that is to be placed. */
        private int restFirst;
        private int restBehind;
        private int restOld;

        Applier(Script script) {
            this.script = script;
        }

        /** Answers whether it fits. */
        boolean applyCommands(Text text, boolean fromLastOn) {
            begin();
            for (int n = 0; n < script.commandCount; n++) {
                int k = fromLastOn ? script.commandCount - 1 - n : n;
                int ahead = script.aheadOf(k);
                restFirst = script.firstLine[k];
                restBehind = script.behindLines(k);
                restOld = script.aCount[k];
                if (!fitsAt(text, ahead)) {
                    return false;
                }
                replace(text, ahead);
            }
            result.addLines(text, done, text.lineCount);
            return true;
        }

        /** Answers how many were rejected. */
        int applyHunks(Text text, int mostFuzz, Hunks hunks) {
            begin();
            hunks.total = 0;
            int rejected = 0;
            int shift = 0;
            for (int k = 0; k < script.commandCount; k++) {
                int place = NONE;
                int fuzz = 0;
                int leftOut = 0;
                for (int f = 0; f <= mostFuzz && place == NONE; f++) {
                    fuzz = f;
                    leftOut = leaveOut(k, f);
                    place = findPlace(text, script.aheadOf(k) + shift + leftOut);
                }
                if (place == NONE) {
                    rejected++;
                    hunks.add(NONE, 0, 0);
                } else {
                    shift = place - leftOut - script.aheadOf(k);
                    hunks.add(place, shift, fuzz);
                    replace(text, place);
                }
            }
            result.addLines(text, done, text.lineCount);
            return rejected;
        }

        private void begin() {
            result.empty();
            done = 0;
        }

        /** Answers how many lines are left out at the hunk's begin. */
        private int leaveOut(int k, int fuzz) {
            int first = script.firstLine[k];
            int behind = script.behindLines(k);
            restFirst = first;
            while (restFirst < behind && restFirst - first < fuzz && script.sign[restFirst] == ' ') {
                restFirst++;
            }
            restBehind = behind;
            while (restBehind > restFirst && behind - restBehind < fuzz && script.sign[restBehind - 1] == ' ') {
                restBehind--;
            }
            restOld = 0;
            for (int line = restFirst; line < restBehind; line++) {
                restOld += script.sign[line] == '+' ? 0 : 1;
            }
            return restFirst - first;
        }

        /** Begins with the least distance that lies within the text: numbers may be far beyond it. */
        private int findPlace(Text text, int wanted) {
            int highest = text.lineCount - restOld;
            int nearest = Math.max(0, Math.max(done - wanted, wanted - highest));
            int farthest = Math.max(wanted - done, highest - wanted);
            if (highest < done) {
                return NONE;
            }
            for (int distance = nearest; distance <= farthest; distance++) {
                if (fitsAt(text, wanted + distance)) {
                    return wanted + distance;
                }
                if (fitsAt(text, wanted - distance)) {
                    return wanted - distance;
                }
            }
            return NONE;
        }

        private boolean fitsAt(Text text, int place) {
            if (place < done || place + restOld > text.lineCount) {
                return false;
            }
            int textLine = place;
            for (int line = restFirst; line < restBehind; line++) {
                if (script.sign[line] != '+') {
                    if (!text.hasLine(textLine, script.tape, script.from[line], script.to[line])) {
                        return false;
                    }
                    textLine++;
                }
            }
            return true;
        }

        private void replace(Text text, int place) {
            result.addLines(text, done, place);
            for (int line = restFirst; line < restBehind; line++) {
                if (script.sign[line] != '-') {
                    result.addLine(script.tape, script.from[line], script.to[line]);
                }
            }
            done = place + restOld;
        }
    }

    /** Joins two heirs of one text. */
    private static final class Joiner {
        private final Comparison comparison;
        private final Bytes out;
        private final int[] inA = new int[MOST_LINES];
        private int oFrom;
        private int aFrom;
        private int bFrom;
        private int clashes;

        Joiner(Comparison comparison, Bytes out) {
            this.comparison = comparison;
            this.out = out;
        }

        /** Answers how many clashes there are. */
        int joinHeirs(Text o, Text a, Text b) {
            out.empty();
            oFrom = 0;
            aFrom = 0;
            bFrom = 0;
            clashes = 0;
            comparison.compare(o, a);
            System.arraycopy(comparison.partner, 0, inA, 0, MOST_LINES);
            comparison.compare(o, b);
            for (int line = 0; line < o.lineCount; line++) {
                int aNumber = inA[line];
                int bNumber = comparison.partner[line];
                if (aNumber > 0 && bNumber > 0) {
                    joinPart(o, line, a, aNumber - 1, b, bNumber - 1);
                    out.addLines(o, line, line + 1);
                    oFrom = line + 1;
                    aFrom = aNumber;
                    bFrom = bNumber;
                }
            }
            joinPart(o, o.lineCount, a, a.lineCount, b, b.lineCount);
            return clashes;
        }

        private void joinPart(Text o, int oTo, Text a, int aTo, Text b, int bTo) {
            if (areAlike(o, oFrom, oTo, a, aFrom, aTo)) {
                out.addLines(b, bFrom, bTo);
            } else if (areAlike(o, oFrom, oTo, b, bFrom, bTo) || areAlike(a, aFrom, aTo, b, bFrom, bTo)) {
                out.addLines(a, aFrom, aTo);
            } else {
                clashes++;
                out.addText("<<<<<<<\n");
                out.addLines(a, aFrom, aTo);
                out.closeLine();
                out.addText("=======\n");
                out.addLines(b, bFrom, bTo);
                out.closeLine();
                out.addText(">>>>>>>\n");
            }
        }

        private static boolean areAlike(Text x, int xFrom, int xTo, Text y, int yFrom, int yTo) {
            if (xTo - xFrom != yTo - yFrom) {
                return false;
            }
            for (int n = 0; n < xTo - xFrom; n++) {
                if (!x.isAlike(xFrom + n, y, yFrom + n)) {
                    return false;
                }
            }
            return true;
        }
    }
}
