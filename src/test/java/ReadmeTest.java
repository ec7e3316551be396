import java.io.IOException;
import java.lang.reflect.Method;
import java.lang.reflect.Modifier;
import java.nio.charset.StandardCharsets;
import java.nio.file.Files;
import java.nio.file.Path;
import java.util.Arrays;
import java.util.List;
import java.util.regex.Matcher;
import java.util.regex.Pattern;
import java.util.stream.Stream;

/** What README.md tells is so: its example's answers, and that it names all there is to name. */
public final class ReadmeTest extends Checks {
    private static final Pattern MADE = Pattern.compile("DiffBench bench = new DiffBench\\(\\);");
    private static final Pattern CALL = Pattern.compile("bench\\.(\\w+)\\((.*)\\); +// (true|false|-?\\d+)(: .*)?");
    /** OUT or a text that the words behind an answer tell: 'OUT is "..."', 'TEXT 3 is "..."'. */
    private static final Pattern TOLD = Pattern.compile("(OUT|TEXT (\\d)) is \"(.*?)\"");

    public static void main(String[] args) throws Exception {
        List<String> readme = Files.readAllLines(Path.of("README.md"), StandardCharsets.UTF_8);
        promise("all, the example of README.md");
        runExample(readme);
        promise("all, README.md");
        lookForNames(String.join("\n", readme));
        finish();
    }

    private static void runExample(List<String> readme) throws Exception {
        DiffBench bench = null;
        int calls = 0;
        boolean inExample = false;
        for (String line : readme) {
            if (line.startsWith("```")) {
                inExample = line.equals("```java");
            } else if (inExample && MADE.matcher(line).matches()) {
                bench = new DiffBench();
            } else if (inExample && !line.isEmpty() && !line.startsWith("//")) {
                runCall(bench, line);
                calls++;
            }
        }
        due("the example has calls", calls > 30, true);
    }

    private static void runCall(DiffBench bench, String line) throws Exception {
        Matcher call = CALL.matcher(line);
        boolean canBeMade = call.matches() && bench != null;
        due("a call with its answer: " + line, canBeMade, true);
        if (canBeMade) {
            due(line, String.valueOf(answer(bench, call.group(1), call.group(2))), call.group(3));
            lookAtTold(bench, line);
        }
    }

    private static Object answer(DiffBench bench, String name, String arguments) throws Exception {
        Object[] values = arguments.isEmpty() ? new Object[0]
            : Arrays.stream(arguments.split(", ")).map(Integer::decode).toArray();
        Class<?>[] types = new Class<?>[values.length];
        Arrays.fill(types, int.class);
        return DiffBench.class.getMethod(name, types).invoke(bench, values);
    }

    private static void lookAtTold(DiffBench bench, String line) {
        Matcher told = TOLD.matcher(line);
        while (told.find()) {
            boolean isOut = told.group(2) == null;
            int t = isOut ? 0 : Integer.parseInt(told.group(2));
            StringBuilder is = new StringBuilder();
            for (int i = 0, size = isOut ? bench.count(1) : bench.size(t); i < size; i++) {
                is.append((char) (isOut ? bench.out(i) : bench.byteAt(t, i)));
            }
            due(line, is.toString(), told.group(3).replace("\\n", "\n"));
        }
    }

    private static void lookForNames(String readme) throws IOException {
        for (Method m : DiffBench.class.getDeclaredMethods()) {
            if (Modifier.isPublic(m.getModifiers())) {
                due("the call " + m.getName(), Pattern.compile("\n\\|.*`" + m.getName() + "\\(.*\\|.*\\|\n").matcher(readme).find(), true);
            }
        }
        for (Class<?> c : DiffBench.class.getDeclaredClasses()) {
            due("the class " + c.getSimpleName(), readme.contains("`" + c.getSimpleName() + "`"), true);
        }
        try (Stream<Path> tests = Files.list(Path.of("src/test/java"))) {
            tests.map(p -> p.getFileName().toString().replace(".java", ""))
                .forEach(name -> due("the test " + name, readme.contains("`" + name + "`"), true));
        }
    }
}
