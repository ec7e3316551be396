import java.io.IOException;
import java.nio.charset.StandardCharsets;
import java.nio.file.Files;
import java.nio.file.Path;
import java.util.function.ToIntFunction;

/** Counts answers that are not the ones due, and names the promise and the sentence they belong to. */
abstract class Checks {
    private static final String DOCUMENT = documentInOneLine();
    private static final String REFUSED = ", \"What is refused changes nothing but what fault() tells.\"";
    private static String topic = "";
    private static int checked = 0;
    private static int wrong = 0;

    static void promise(String name) {
        topic = "promise " + name;
    }

    /** What follows is about these words of the document. */
    static void sentence(int promise, String words) {
        topic = "promise " + promise + ", \"" + words + "\"";
        checked++;
        if (!DOCUMENT.contains(words)) {
            wrong++;
            System.out.println(topic + ": these words are not in the document");
        }
    }

    static void due(String call, int got, int want) {
        due(call, (Object) got, (Object) want);
    }

    static void due(String call, Object got, Object want) {
        checked++;
        if (want == null ? got != null : !want.equals(got)) {
            wrong++;
            System.out.println(topic + ", " + call + ": answered [" + shortened(got) + "], due is [" + shortened(want) + "]");
        }
    }

    /** The call answers NONE, and changes nothing: fault() tells the same, too. */
    static void refused(String call, Bench x, ToIntFunction<Bench> refusedCall) {
        refusedWith(x.faults(), call, x, refusedCall);
    }

    /** As refused(), of an apply() or turn(): fault() then tells these two numbers. */
    static void refusedWith(String faults, String call, Bench x, ToIntFunction<Bench> refusedCall) {
        String state = x.state();
        due(call, refusedCall.applyAsInt(x), DiffBench.NONE);
        due(call + REFUSED + ": fault()", x.faults(), faults);
        due(call + REFUSED + ": all the rest", x.state(), state);
    }

    static void finish() {
        System.out.println(checked + " answers looked at, " + wrong + " wrong");
        if (wrong != 0) {
            System.exit(1);
        }
    }

    private static String shortened(Object answer) {
        String s = String.valueOf(answer).replace("\n", "|");
        return s.length() <= 600 ? s : s.substring(0, 600) + " .. of " + s.length();
    }

    private static String documentInOneLine() {
        try {
            return Files.readString(Path.of("../shared/DOC.md"), StandardCharsets.UTF_8).replaceAll("\\s+", " ");
        } catch (IOException e) {
            return "";
        }
    }
}
