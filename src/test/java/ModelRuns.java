import java.util.ArrayList;
import java.util.Arrays;
import java.util.Collections;
import java.util.List;
import java.util.Random;
import java.util.regex.Matcher;
import java.util.regex.Pattern;

/**
 * Runs of made-up calls, each answer set against a plain model: lists of strings, patterns, no limits
 * of speed. The seeds are fixed, so that every run is the same.
 */
public final class ModelRuns {
    private static final int RUNS = 3000;
    private static final int STEPS = 30;
    /** A step fills the TAPE once at most, by 300 calls of feed(). */
    private static final int CALLS_OF_A_STEP = 320;
    private static int wrong = 0;
    private static final int[] seen = new int[16];

    public static void main(String[] args) {
        int runs = args.length > 0 ? Integer.parseInt(args[0]) : RUNS;
        int firstSeed = args.length > 1 ? Integer.parseInt(args[1]) : 1;
        for (int seed = firstSeed; seed < firstSeed + runs && wrong < 20; seed++) {
            new Run(seed).go();
        }
        System.out.println("applied " + seen[0] + ", with fuzz " + seen[1] + ", shifted " + seen[2] + ", rejected " + seen[3]
            + ", not well formed " + seen[4] + ", not fitting " + seen[5] + ", too long " + seen[6] + ", turned " + seen[7]
            + ", joined " + seen[8] + ", clashes " + seen[9]);
        for (int i = 0; i < 10; i++) {
            if (seen[i] == 0 && runs >= RUNS) {
                wrong++;
                System.out.println("kind " + i + " never came");
            }
        }
        System.out.println(wrong == 0 ? "all answers are as the model's" : wrong + " answers are not as the model's");
        if (wrong != 0) {
            System.exit(1);
        }
    }

    private static final class Run {
        final int seed;
        final Random random;
        final Model model = new Model();
        final List<String> calls = new ArrayList<>();
        final Bench bench = new Bench();

        Run(int seed) {
            this.seed = seed;
            random = new Random(seed);
        }

        void go() {
            for (int t = 0; t < 4; t++) {
                put(t, random.nextInt(3) == 0 || t == 0 ? madeText() : mutated(model.texts[random.nextInt(t)]));
            }
            for (int step = 0; step < STEPS && bench.callsLeft() > CALLS_OF_A_STEP && wrong < 20; step++) {
                doStep();
            }
        }

        int index() {
            return random.nextInt(60) == 0 ? random.nextInt(12) - 2 : random.nextInt(5);
        }

        void doStep() {
            switch (random.nextInt(12)) {
                case 0:
                    put(random.nextInt(5), random.nextBoolean() ? madeText() : mutated(model.texts[random.nextInt(5)]));
                    break;
                case 1:
                    askScript(index(), index());
                    break;
                case 2:
                    tape(madeScript());
                    doApply();
                    break;
                case 3:
                    doJoin();
                    break;
                case 4:
                    int kept = index();
                    due("keep " + kept, bench.keep(kept), model.keep(kept));
                    break;
                case 5:
                    tape(mutatedScript(model.tape));
                    doApply();
                    break;
                case 6:
                    doTurn();
                    break;
                default:
                    doWrite();
                    due("load", bench.load(), model.load());
                    if (random.nextInt(3) == 0) {
                        tape(mutatedScript(model.tape));
                    }
                    doApply();
                    if (random.nextInt(4) == 0) {
                        doTurn();
                        due("load", bench.load(), model.load());
                        doApply();
                    }
            }
            compareState();
        }

        int lastForm = 0;

        void doWrite() {
            int a = index();
            int b = index();
            int form = random.nextInt(40) == 0 ? random.nextInt(6) - 1 : random.nextInt(4) % 3 == 0 ? random.nextInt(3) : 1;
            int n = random.nextInt(30) == 0 ? random.nextInt(14) - 2 : random.nextInt(4);
            lastForm = form;
            due("write " + a + " " + b + " " + form + " " + n, bench.write(a, b, form, n), model.write(a, b, form, n));
        }

        void doApply() {
            int t = index();
            int f = random.nextInt(30) == 0 ? random.nextInt(7) - 2 : random.nextInt(4);
            int u = index();
            int form = random.nextInt(12) == 0 ? random.nextInt(5) - 1 : lastForm;
            int got = bench.apply(t, form, f, u);
            due("apply " + t + " " + form + " " + f + " " + u, got, model.apply(t, form, f, u));
            for (int what = -1; what < 3; what++) {
                due("fault " + what, bench.fault(what), model.fault(what));
            }
            for (int k = 0; k <= model.hunks.size(); k++) {
                for (int what = 0; what < 4; what++) {
                    due("hunk " + k + " " + what, bench.hunk(k, what), model.hunk(k, what));
                }
            }
            count(got, form);
        }

        void count(int got, int form) {
            seen[0] += got >= 0 && !model.tape.isEmpty() ? 1 : 0;
            if (got >= 0 && form == 1) {
                for (int[] h : model.hunks) {
                    seen[1] += h[2] > 0 ? 1 : 0;
                    seen[2] += h[1] != 0 ? 1 : 0;
                }
            }
            seen[3] += got > 0 ? 1 : 0;
            if (model.why > 0) {
                seen[3 + model.why]++;
            }
        }

        void doTurn() {
            int form = random.nextInt(20) == 0 ? random.nextInt(6) - 2 : lastForm;
            int got = bench.turn(form);
            due("turn " + form, got, model.turn(form));
            due("fault 0", bench.fault(0), model.fault(0));
            due("fault 1", bench.fault(1), model.fault(1));
            seen[7] += got > 0 ? 1 : 0;
        }

        void doJoin() {
            int o = index();
            int a = index();
            int b = index();
            int got = bench.join(o, a, b);
            due("join " + o + " " + a + " " + b, got, model.join(o, a, b));
            seen[8] += got >= 0 ? 1 : 0;
            seen[9] += got > 0 ? 1 : 0;
        }

        void askScript(int a, int b) {
            due("common " + a + " " + b, bench.common(a, b), model.common(a, b));
            due("changes", bench.changes(a, b), model.changes(a, b));
            for (int i = -1; i < 14; i++) {
                due("pair " + i, bench.pair(a, b, i), model.pair(a, b, i));
                for (int what = -1; what < 5; what++) {
                    due("change " + i + " " + what, bench.change(a, b, i, what), model.change(a, b, i, what));
                }
            }
        }

        void compareState() {
            for (int what = -1; what < 4; what++) {
                due("count " + what, bench.count(what), model.count(what));
            }
            for (int i = 0; i <= model.out.length(); i++) {
                due("out " + i, bench.out(i), i < model.out.length() ? model.out.charAt(i) : -1);
            }
            for (int t = 0; t < 8; t++) {
                String text = model.texts[t];
                due("size " + t, bench.size(t), text.length());
                due("lines " + t, bench.lines(t), Model.lines(text).size());
                for (int i = 0; i <= text.length(); i++) {
                    due("byteAt " + t + " " + i, bench.byteAt(t, i), i < text.length() ? text.charAt(i) : -1);
                }
            }
        }

        void put(int t, String text) {
            tape(text);
            due("text " + t, bench.text(t), model.text(t));
        }

        void tape(String text) {
            model.tape = text.substring(0, Math.min(text.length(), 6000));
            bench.tape(model.tape);
            calls.add("tape " + model.tape.replace("\n", "|"));
        }

        String madeLine() {
            String[] kinds = {"a", "b", "c", "a", "b", "d", "", ".", "..", "-", "+x", " y", "1d0", "@@ -1 +1 @@", "\u00FF"};
            return kinds[random.nextInt(random.nextInt(6) == 0 ? kinds.length : 6)] + "\n";
        }

        String madeText() {
            StringBuilder s = new StringBuilder();
            int size = random.nextInt(30) == 0 ? 150 + random.nextInt(60) : random.nextInt(14);
            for (int n = 0; n < size; n++) {
                s.append(random.nextInt(40) == 0 ? "q".repeat(random.nextInt(size > 20 ? 60 : 300)) + "\n" : madeLine());
            }
            return maybeOpen(s.toString());
        }

        String maybeOpen(String s) {
            return random.nextInt(5) == 0 && s.endsWith("\n") ? s.substring(0, s.length() - 1) : s;
        }

        String mutated(String text) {
            List<String> all = Model.lines(text);
            if (!all.isEmpty() && !text.endsWith("\n")) {
                all.set(all.size() - 1, all.get(all.size() - 1) + "\n");
            }
            for (int n = random.nextInt(4); n >= 0; n--) {
                int at = random.nextInt(all.size() + 1);
                int how = random.nextInt(3);
                if (how == 0 || at == all.size()) {
                    all.add(at, madeLine());
                } else if (how == 1) {
                    all.remove(at);
                } else {
                    all.set(at, madeLine());
                }
            }
            return maybeOpen(String.join("", all));
        }

        String mutatedScript(String script) {
            List<String> all = Model.lines(script);
            if (all.isEmpty()) {
                return madeScript();
            }
            int at = random.nextInt(all.size());
            String line = all.get(at);
            int in = random.nextInt(line.length());
            String[] pieces = {"0", "1", "2", "9", ",", "a", "c", "d", " ", "-", "+", "<", ">", ".", "\\", "@", "\n", ",0", ",1", "12345"};
            switch (random.nextInt(9)) {
                case 0: all.remove(at); break;
                case 1: all.add(at, line); break;
                case 2: all.set(at, line.substring(0, in) + line.substring(in + 1)); break;
                case 3: all.set(at, line.substring(0, in) + pieces[random.nextInt(pieces.length)] + line.substring(in)); break;
                case 4: all.set(at, line.substring(0, in) + pieces[random.nextInt(pieces.length)] + line.substring(in + 1)); break;
                case 5: all.add(at, Model.MARK); break;
                case 6: all.add(random.nextInt(all.size()), all.remove(at)); break;
                case 7: numbersChanged(all, at); break;
                default: all.set(at, madeLine());
            }
            return String.join("", all);
        }

        void numbersChanged(List<String> all, int at) {
            for (int n = 0; n < all.size(); n++) {
                int k = (at + n) % all.size();
                Matcher m = Pattern.compile("[0-9]+").matcher(all.get(k));
                if (m.find()) {
                    int number = Integer.parseInt(m.group().length() > 6 ? "7" : m.group()) + random.nextInt(7) - 3;
                    all.set(k, m.replaceFirst(String.valueOf(random.nextInt(20) == 0 ? 99999 - random.nextInt(3) : Math.max(0, number))));
                    return;
                }
            }
        }

        /** A script of hunks or commands with no text behind it, most often well formed. */
        String madeScript() {
            StringBuilder s = new StringBuilder();
            lastForm = random.nextInt(3);
            int number = lastForm == 2 ? 12 : 0;
            if (lastForm == 1) {
                s.append("--- p\n+++ q\n");
            }
            int shift = 0;
            for (int n = random.nextInt(4); n >= 0; n--) {
                if (lastForm == 1) {
                    number = madeHunk(s, number);
                } else if (lastForm == 2) {
                    number = madeEd(s, number);
                } else {
                    int goes = random.nextInt(3);
                    int comes = goes == 0 ? 1 + random.nextInt(2) : random.nextInt(3);
                    number += random.nextInt(3) + (goes > 0 ? 1 : 0);
                    madeNormal(s, number, goes, number + shift, comes);
                    shift += comes - goes;
                    number += Math.max(goes, 1) - 1;
                }
            }
            return s.toString();
        }

        void madeNormal(StringBuilder s, int number, int goes, int b, int comes) {
            s.append(number).append(goes > 1 ? "," + (number + goes - 1) : "");
            s.append(goes == 0 ? "a" : comes == 0 ? "d" : "c");
            int first = goes == 0 ? b + 1 : comes == 0 ? b - 1 : b;
            s.append(first).append(comes > 1 ? "," + (first + comes - 1) : "").append("\n");
            for (int i = 0; i < goes; i++) {
                s.append("< ").append(madeLine());
            }
            s.append(random.nextInt(9) == 0 && goes > 0 ? Model.MARK : "");
            s.append(goes > 0 && comes > 0 ? "---\n" : "");
            for (int i = 0; i < comes; i++) {
                s.append("> ").append(madeLine());
            }
            s.append(random.nextInt(9) == 0 && comes > 0 ? Model.MARK : "");
        }

        int madeEd(StringBuilder s, int number) {
            int first = number - 1 - random.nextInt(4);
            if (first < 0) {
                return number;
            }
            int kind = first == 0 ? 0 : random.nextInt(3);
            int from = kind == 0 ? first : Math.max(1, first - random.nextInt(3));
            s.append(from).append(from < first ? "," + first : "").append("acd".charAt(kind)).append("\n");
            if (kind < 2) {
                for (int i = random.nextInt(3); i >= 0; i--) {
                    String line = madeLine();
                    s.append(line.equals(".\n") ? "x\n" : line);
                }
                s.append(".\n");
            }
            return from;
        }

        int madeHunk(StringBuilder s, int number) {
            int a = 0;
            int b = 0;
            StringBuilder lines = new StringBuilder();
            for (int i = random.nextInt(7); i >= 0; i--) {
                char sign = " -+ ".charAt(random.nextInt(4));
                a += sign == '+' ? 0 : 1;
                b += sign == '-' ? 0 : 1;
                lines.append(sign).append(madeLine()).append(random.nextInt(25) == 0 ? Model.MARK : "");
            }
            int first = number + random.nextInt(4) + (a == 0 ? 0 : 1);
            s.append("@@ -").append(first).append(a == 1 ? "" : "," + a).append(" +").append(random.nextInt(9) + 1)
                .append(b == 1 ? "" : "," + b).append(" @@\n").append(lines);
            return first + Math.max(a, 1) - 1;
        }

        void due(String call, int got, int want) {
            if (!call.startsWith("byteAt") && !call.startsWith("out") && !call.startsWith("size") && !call.startsWith("lines")) {
                calls.add(call + " = " + want);
            }
            if (got != want && wrong < 20) {
                wrong++;
                System.out.println("seed " + seed + ": " + call + " answered " + got + ", due is " + want);
                if (wrong == 1) {
                    calls.forEach(c -> System.out.println("  " + c));
                }
            }
        }
    }

    /** The document once more, as plainly as it can be told. */
    private static final class Model {
        static final String MARK = "\\ No newline at end of file\n";
        static final String NUM = "(0|[1-9][0-9]{0,4})";
        static final Pattern NORMAL = Pattern.compile(NUM + "(?:," + NUM + ")?([acd])" + NUM + "(?:," + NUM + ")?\n");
        static final Pattern ED = Pattern.compile(NUM + "(?:," + NUM + ")?([acd])\n");
        static final Pattern HUNK = Pattern.compile("@@ -" + NUM + "(?:," + NUM + ")? \\+" + NUM + "(?:," + NUM + ")? @@\n");

        final String[] texts = new String[8];
        String tape = "";
        String out = "";
        int why = 0;
        int wrongLine = 0;
        List<int[]> hunks = new ArrayList<>();

        Model() {
            Arrays.fill(texts, "");
        }

        static List<String> lines(String s) {
            List<String> all = new ArrayList<>();
            int from = 0;
            while (from < s.length()) {
                int to = s.indexOf('\n', from);
                to = to < 0 ? s.length() : to + 1;
                all.add(s.substring(from, to));
                from = to;
            }
            return all;
        }

        static boolean tooLong(String s) {
            return s.length() > 2000 || lines(s).size() > 200;
        }

        static boolean isText(int... all) {
            return Arrays.stream(all).allMatch(t -> t >= 0 && t <= 7);
        }

        int text(int t) {
            if (!isText(t) || tooLong(tape)) {
                return -1;
            }
            texts[t] = tape;
            tape = "";
            return lines(texts[t]).size();
        }

        int keep(int t) {
            if (!isText(t) || tooLong(out)) {
                return -1;
            }
            texts[t] = out;
            return lines(out).size();
        }

        int load() {
            if (out.length() > 6000) {
                return -1;
            }
            tape = out;
            return out.length();
        }

        int count(int what) {
            return what == 0 ? tape.length() : what == 1 ? out.length() : what == 2 ? hunks.size() : -1;
        }

        int fault(int what) {
            return what == 0 ? why : what == 1 ? wrongLine : -1;
        }

        int hunk(int k, int what) {
            return k >= 0 && k < hunks.size() && what >= 0 && what <= 2 ? hunks.get(k)[what] : -1;
        }

        /** The steps of a script: 'P', 'G', 'C'. */
        static String steps(List<String> a, List<String> b) {
            int[][] l = new int[a.size() + 2][b.size() + 2];
            for (int i = a.size(); i >= 1; i--) {
                for (int j = b.size(); j >= 1; j--) {
                    l[i][j] = Math.max(Math.max(l[i + 1][j], l[i][j + 1]),
                        a.get(i - 1).equals(b.get(j - 1)) ? 1 + l[i + 1][j + 1] : 0);
                }
            }
            StringBuilder s = new StringBuilder();
            int i = 1;
            int j = 1;
            while (true) {
                boolean aIs = i <= a.size();
                boolean bIs = j <= b.size();
                if (aIs && bIs && a.get(i - 1).equals(b.get(j - 1))) {
                    s.append('P');
                    i++;
                    j++;
                } else if (aIs && (!bIs || l[i + 1][j] >= l[i][j + 1])) {
                    s.append('G');
                    i++;
                } else if (bIs) {
                    s.append('C');
                    j++;
                } else {
                    return s.toString();
                }
            }
        }

        String steps(int a, int b) {
            return steps(lines(texts[a]), lines(texts[b]));
        }

        int common(int a, int b) {
            return isText(a, b) ? (int) steps(a, b).chars().filter(c -> c == 'P').count() : -1;
        }

        static int[] partners(String steps) {
            List<Integer> all = new ArrayList<>();
            int j = 1;
            for (char c : steps.toCharArray()) {
                if (c == 'P') {
                    all.add(j);
                }
                if (c == 'G') {
                    all.add(0);
                }
                j += c == 'G' ? 0 : 1;
            }
            return all.stream().mapToInt(n -> n).toArray();
        }

        int pair(int a, int b, int i) {
            if (!isText(a, b)) {
                return -1;
            }
            int[] all = partners(steps(a, b));
            return i >= 1 && i <= all.length ? all[i - 1] : -1;
        }

        static List<int[]> changeList(String steps) {
            List<int[]> all = new ArrayList<>();
            int i = 0;
            int j = 0;
            char before = 'P';
            for (char c : steps.toCharArray()) {
                if (c != 'P' && before == 'P') {
                    all.add(new int[] {i, 0, j, 0});
                }
                if (c != 'P') {
                    all.get(all.size() - 1)[c == 'G' ? 1 : 3]++;
                }
                i += c == 'C' ? 0 : 1;
                j += c == 'G' ? 0 : 1;
                before = c;
            }
            return all;
        }

        int changes(int a, int b) {
            return isText(a, b) ? changeList(steps(a, b)).size() : -1;
        }

        int change(int a, int b, int k, int what) {
            if (!isText(a, b)) {
                return -1;
            }
            List<int[]> all = changeList(steps(a, b));
            return k >= 0 && k < all.size() && what >= 0 && what <= 3 ? all.get(k)[what] : -1;
        }

        static String shown(String sign, String line) {
            return line.endsWith("\n") ? sign + line : sign + line + "\n" + MARK;
        }

        static String range(int ahead, int n) {
            return n == 0 ? "" + ahead : n == 1 ? "" + (ahead + 1) : (ahead + 1) + "," + (ahead + n);
        }

        static String counted(int ahead, int n) {
            return n == 0 ? ahead + ",0" : n == 1 ? "" + (ahead + 1) : (ahead + 1) + "," + n;
        }

        int write(int a, int b, int form, int n) {
            if (!isText(a, b) || form < 0 || form > 2 || (form == 1 && (n < 0 || n > 9))) {
                return -1;
            }
            List<String> as = lines(texts[a]);
            List<String> bs = lines(texts[b]);
            String steps = steps(as, bs);
            String made = form == 0 ? normal(as, bs, changeList(steps)) : form == 1 ? unified(as, bs, steps, n) : ed(as, bs, changeList(steps));
            if (made == null) {
                return -1;
            }
            out = made;
            return out.length();
        }

        static String normal(List<String> a, List<String> b, List<int[]> changes) {
            StringBuilder s = new StringBuilder();
            for (int[] c : changes) {
                s.append(range(c[0], c[1])).append(c[1] == 0 ? "a" : c[3] == 0 ? "d" : "c").append(range(c[2], c[3])).append("\n");
                a.subList(c[0], c[0] + c[1]).forEach(l -> s.append(shown("< ", l)));
                s.append(c[1] > 0 && c[3] > 0 ? "---\n" : "");
                b.subList(c[2], c[2] + c[3]).forEach(l -> s.append(shown("> ", l)));
            }
            return s.toString();
        }

        static String ed(List<String> a, List<String> b, List<int[]> changes) {
            for (List<String> t : List.of(a, b)) {
                if (!t.isEmpty() && !t.get(t.size() - 1).endsWith("\n")) {
                    return null;
                }
            }
            StringBuilder s = new StringBuilder();
            Collections.reverse(changes);
            for (int[] c : changes) {
                s.append(range(c[0], c[1])).append(c[1] == 0 ? "a" : c[3] == 0 ? "d" : "c").append("\n");
                List<String> come = b.subList(c[2], c[2] + c[3]);
                if (come.contains(".\n")) {
                    return null;
                }
                s.append(String.join("", come)).append(c[3] > 0 ? ".\n" : "");
            }
            return s.toString();
        }

        /** By steps: which of them are within n pairs of a change, or between two with at most 2 n. */
        static String unified(List<String> a, List<String> b, String steps, int n) {
            int size = steps.length();
            boolean[] in = new boolean[size];
            int pairsBehind = 1000000;
            for (int k = 0; k < size; k++) {
                pairsBehind = steps.charAt(k) == 'P' ? pairsBehind + 1 : 0;
                in[k] |= pairsBehind <= n;
            }
            int pairsAhead = 1000000;
            for (int k = size - 1; k >= 0; k--) {
                pairsAhead = steps.charAt(k) == 'P' ? pairsAhead + 1 : 0;
                in[k] |= pairsAhead <= n;
            }
            StringBuilder s = new StringBuilder();
            int i = 0;
            int j = 0;
            for (int k = 0; k < size; ) {
                if (!in[k]) {
                    i++;
                    j++;
                    k++;
                    continue;
                }
                int iAhead = i;
                int jAhead = j;
                StringBuilder body = new StringBuilder();
                StringBuilder coming = new StringBuilder();
                for (; k < size && in[k]; k++) {
                    if (steps.charAt(k) == 'P') {
                        body.append(coming).append(shown(" ", a.get(i++)));
                        coming.setLength(0);
                        j++;
                    } else if (steps.charAt(k) == 'G') {
                        body.append(shown("-", a.get(i++)));
                    } else {
                        coming.append(shown("+", b.get(j++)));
                    }
                }
                s.append("@@ -").append(counted(iAhead, i - iAhead)).append(" +").append(counted(jAhead, j - jAhead))
                    .append(" @@\n").append(body).append(coming);
            }
            return s.length() == 0 ? "" : "--- a\n+++ b\n" + s;
        }

        /** A command or hunk: its numbers, and its lines with one sign ahead of each. */
        static final class Piece {
            char letter;
            int first;
            int aCount;
            int bFirst;
            int bCount;
            final List<String> lines = new ArrayList<>();

            int told() {
                return aCount == 0 ? first : first - 1;
            }

            List<String> lines(String signs) {
                List<String> all = new ArrayList<>();
                lines.stream().filter(l -> signs.indexOf(l.charAt(0)) >= 0).forEach(l -> all.add(l.substring(1)));
                return all;
            }
        }

        static final class Wrong extends Exception {
            private static final long serialVersionUID = 1;
        }

        /** The lines that are still to be read. */
        static final class Feed {
            final List<String> all;
            int at = 0;

            Feed(String tape) {
                all = Model.lines(tape);
            }

            boolean more() {
                return at < all.size();
            }

            String next() throws Wrong {
                at++;
                need(at <= all.size() && all.get(at - 1).endsWith("\n"));
                return all.get(at - 1);
            }

            String lineMaybeOpen(String line) {
                if (more() && all.get(at).equals(MARK)) {
                    at++;
                    return line.substring(0, line.length() - 1);
                }
                return line;
            }

            void need(boolean so) throws Wrong {
                if (!so) {
                    throw new Wrong();
                }
            }
        }

        static int number(String s, int without) {
            return s == null ? without : Integer.parseInt(s);
        }

        static List<Piece> readNormal(Feed in) throws Wrong {
            List<Piece> all = new ArrayList<>();
            int last = 0;
            int more = 0;
            while (in.more()) {
                Matcher m = NORMAL.matcher(in.next());
                in.need(m.matches());
                Piece p = new Piece();
                p.letter = m.group(3).charAt(0);
                p.first = number(m.group(1), 0);
                int aLast = number(m.group(2), p.first);
                p.bFirst = number(m.group(4), 0);
                int bLast = number(m.group(5), p.bFirst);
                in.need(m.group(2) == null || (aLast > p.first && p.letter != 'a'));
                in.need(m.group(5) == null || (bLast > p.bFirst && p.letter != 'd'));
                p.aCount = p.letter == 'a' ? 0 : aLast - p.first + 1;
                p.bCount = p.letter == 'd' ? 0 : bLast - p.bFirst + 1;
                in.need(p.letter == 'a' ? p.first >= last : p.first > last);
                int bAhead = p.told() + more;
                in.need(p.bFirst == (p.letter == 'd' ? bAhead : bAhead + 1));
                last = aLast;
                more += p.bCount - p.aCount;
                row(in, p, "< ", '-', p.aCount);
                if (p.letter == 'c') {
                    in.need(in.next().equals("---\n"));
                }
                row(in, p, "> ", '+', p.bCount);
                all.add(p);
            }
            return all;
        }

        static void row(Feed in, Piece p, String begin, char sign, int size) throws Wrong {
            for (int n = 1; n <= size; n++) {
                String line = in.next();
                in.need(line.startsWith(begin));
                p.lines.add(sign + (n == size ? in.lineMaybeOpen(line.substring(2)) : line.substring(2)));
            }
        }

        static List<Piece> readEd(Feed in) throws Wrong {
            List<Piece> all = new ArrayList<>();
            int above = Integer.MAX_VALUE;
            while (in.more()) {
                Matcher m = ED.matcher(in.next());
                in.need(m.matches());
                Piece p = new Piece();
                p.letter = m.group(3).charAt(0);
                p.first = number(m.group(1), 0);
                int last = number(m.group(2), p.first);
                in.need(m.group(2) == null || (last > p.first && p.letter != 'a'));
                in.need(p.first > 0 || p.letter == 'a');
                in.need(last < above);
                above = p.first;
                p.aCount = p.letter == 'a' ? 0 : last - p.first + 1;
                if (p.letter != 'd') {
                    String line = in.next();
                    in.need(!line.equals(".\n"));
                    while (!line.equals(".\n")) {
                        p.lines.add("+" + line);
                        line = in.next();
                    }
                }
                all.add(p);
            }
            return all;
        }

        static List<Piece> readUnified(Feed in) throws Wrong {
            List<Piece> all = new ArrayList<>();
            if (!in.more()) {
                return all;
            }
            in.need(in.next().startsWith("--- "));
            in.need(in.next().startsWith("+++ "));
            int last = 0;
            while (all.isEmpty() || in.more()) {
                Matcher m = HUNK.matcher(in.next());
                in.need(m.matches());
                Piece p = new Piece();
                p.first = number(m.group(1), 0);
                p.aCount = number(m.group(2), 1);
                p.bFirst = number(m.group(3), 0);
                p.bCount = number(m.group(4), 1);
                in.need(!"1".equals(m.group(2)) && !"1".equals(m.group(4)));
                in.need((p.first > 0 || p.aCount == 0) && (p.bFirst > 0 || p.bCount == 0));
                in.need(p.aCount + p.bCount > 0);
                in.need(p.aCount == 0 ? p.first >= last : p.first > last);
                last = p.aCount == 0 ? p.first : p.first + p.aCount - 1;
                int a = 0;
                int b = 0;
                while (a < p.aCount || b < p.bCount) {
                    String line = in.next();
                    in.need(" -+".indexOf(line.charAt(0)) >= 0);
                    a += line.charAt(0) == '+' ? 0 : 1;
                    b += line.charAt(0) == '-' ? 0 : 1;
                    in.need(a <= p.aCount && b <= p.bCount);
                    p.lines.add(in.lineMaybeOpen(line));
                }
                all.add(p);
            }
            return all;
        }

        List<Piece> read(int form) {
            Feed in = new Feed(tape);
            try {
                return form == 0 ? readNormal(in) : form == 1 ? readUnified(in) : readEd(in);
            } catch (Wrong e) {
                why = 1;
                wrongLine = in.at;
                return null;
            }
        }

        static String joinedLines(List<String> all) {
            StringBuilder s = new StringBuilder();
            for (int i = 0; i < all.size(); i++) {
                s.append(all.get(i)).append(i + 1 < all.size() && !all.get(i).endsWith("\n") ? "\n" : "");
            }
            return s.toString();
        }

        int apply(int t, int form, int f, int u) {
            why = 0;
            wrongLine = 0;
            if (!isText(t, u) || form < 0 || form > 2 || (form == 1 && (f < 0 || f > 3))) {
                return -1;
            }
            List<Piece> pieces = read(form);
            if (pieces == null) {
                return -1;
            }
            List<String> text = lines(texts[t]);
            List<int[]> placed = new ArrayList<>();
            List<String> made = form == 1 ? patched(text, pieces, f, placed) : edited(text, pieces, form == 2);
            why = made == null ? 2 : tooLong(joinedLines(made)) ? 3 : 0;
            if (why != 0) {
                return -1;
            }
            texts[u] = joinedLines(made);
            if (form == 1) {
                hunks = placed;
            }
            return (int) placed.stream().filter(h -> h[0] == -1).count();
        }

        /** From the last one on, so that the numbers ahead stay as they are. */
        static List<String> edited(List<String> text, List<Piece> pieces, boolean isEd) {
            List<String> made = new ArrayList<>(text);
            List<Piece> order = new ArrayList<>(pieces);
            if (!isEd) {
                Collections.reverse(order);
            }
            for (Piece p : order) {
                if (p.told() + p.aCount > text.size()) {
                    return null;
                }
                List<String> place = made.subList(p.told(), p.told() + p.aCount);
                if (!p.lines("-").isEmpty() && !p.lines("-").equals(place)) {
                    return null;
                }
                place.clear();
                place.addAll(p.lines("+"));
            }
            return made;
        }

        static List<String> patched(List<String> text, List<Piece> pieces, int most, List<int[]> placed) {
            List<String> made = new ArrayList<>(text);
            int grown = 0;
            int end = 0;
            int shift = 0;
            for (Piece p : pieces) {
                int[] h = place(text, p, most, end, shift);
                placed.add(new int[] {h[0], h[1], h[2]});
                if (h[0] == -1) {
                    continue;
                }
                Piece rest = without(p, h[2]);
                List<String> there = made.subList(h[0] + grown, h[0] + grown + rest.lines(" -").size());
                there.clear();
                there.addAll(rest.lines(" +"));
                grown += rest.lines(" +").size() - rest.lines(" -").size();
                end = h[0] + rest.lines(" -").size();
                shift = h[1];
            }
            return made;
        }

        static Piece without(Piece p, int fuzz) {
            Piece rest = new Piece();
            rest.lines.addAll(p.lines);
            for (int n = 0; n < fuzz && !rest.lines.isEmpty() && rest.lines.get(0).startsWith(" "); n++) {
                rest.lines.remove(0);
                rest.first++;
            }
            for (int n = 0; n < fuzz && !rest.lines.isEmpty() && rest.lines.get(rest.lines.size() - 1).startsWith(" "); n++) {
                rest.lines.remove(rest.lines.size() - 1);
            }
            return rest;
        }

        static int[] place(List<String> text, Piece p, int most, int end, int shift) {
            int expected = p.told() + shift;
            for (int fuzz = 0; fuzz <= most; fuzz++) {
                Piece rest = without(p, fuzz);
                List<String> old = rest.lines(" -");
                for (int distance = 0; distance <= Math.abs(expected) + 400; distance++) {
                    for (int at : new int[] {expected + rest.first + distance, expected + rest.first - distance}) {
                        if (at >= end && at + old.size() <= text.size() && text.subList(at, at + old.size()).equals(old)) {
                            return new int[] {at, at - rest.first - p.told(), fuzz};
                        }
                    }
                }
            }
            return new int[] {-1, 0, 0};
        }

        int turn(int form) {
            why = 0;
            wrongLine = 0;
            if (form != 0 && form != 1) {
                return -1;
            }
            List<Piece> pieces = read(form);
            if (pieces == null) {
                return -1;
            }
            StringBuilder s = new StringBuilder();
            List<String> all = lines(tape);
            if (form == 1 && !all.isEmpty()) {
                s.append("---").append(all.get(1).substring(3)).append("+++").append(all.get(0).substring(3));
            }
            for (Piece p : pieces) {
                if (form == 1) {
                    turnHunk(s, p);
                } else {
                    s.append(range(p.bCount == 0 ? p.bFirst : p.bFirst - 1, p.bCount));
                    s.append(p.letter == 'a' ? 'd' : p.letter == 'd' ? 'a' : 'c').append(range(p.told(), p.aCount)).append("\n");
                    p.lines("+").forEach(l -> s.append(shown("< ", l)));
                    s.append(p.letter == 'c' ? "---\n" : "");
                    p.lines("-").forEach(l -> s.append(shown("> ", l)));
                }
            }
            out = s.toString();
            return out.length();
        }

        static void turnHunk(StringBuilder s, Piece p) {
            s.append("@@ -").append(p.bFirst).append(p.bCount == 1 ? "" : "," + p.bCount);
            s.append(" +").append(p.first).append(p.aCount == 1 ? "" : "," + p.aCount).append(" @@\n");
            StringBuilder plus = new StringBuilder();
            for (String line : p.lines) {
                String body = line.substring(1);
                if (line.charAt(0) == ' ') {
                    s.append(plus).append(shown(" ", body));
                    plus.setLength(0);
                } else if (line.charAt(0) == '+') {
                    s.append(shown("-", body));
                } else {
                    plus.append(shown("+", body));
                }
            }
            s.append(plus);
        }

        int join(int o, int a, int b) {
            if (!isText(o, a, b)) {
                return -1;
            }
            List<String> os = lines(texts[o]);
            List<String> as = lines(texts[a]);
            List<String> bs = lines(texts[b]);
            int[] toA = partners(steps(os, as));
            int[] toB = partners(steps(os, bs));
            List<String> made = new ArrayList<>();
            int clashes = 0;
            int from = 0;
            int aFrom = 0;
            int bFrom = 0;
            for (int i = 0; i <= os.size(); i++) {
                boolean last = i == os.size();
                if (!last && (toA[i] == 0 || toB[i] == 0)) {
                    continue;
                }
                List<String> op = os.subList(from, i);
                List<String> ap = as.subList(aFrom, last ? as.size() : toA[i] - 1);
                List<String> bp = bs.subList(bFrom, last ? bs.size() : toB[i] - 1);
                if (op.equals(ap)) {
                    made.addAll(bp);
                } else if (op.equals(bp) || ap.equals(bp)) {
                    made.addAll(ap);
                } else {
                    clashes++;
                    made.add("<<<<<<<\n");
                    made.addAll(ap);
                    made.add("=======\n");
                    made.addAll(bp);
                    made.add(">>>>>>>\n");
                }
                if (!last) {
                    made.add(os.get(i));
                    from = i + 1;
                    aFrom = toA[i];
                    bFrom = toB[i];
                }
            }
            out = joinedLines(made);
            return clashes;
        }
    }
}
