import java.lang.reflect.Constructor;
import java.lang.reflect.Field;
import java.lang.reflect.Method;
import java.lang.reflect.Modifier;
import java.nio.charset.StandardCharsets;
import java.nio.file.Files;
import java.nio.file.Path;
import java.util.Arrays;
import java.util.List;
import java.util.TreeSet;
import java.util.regex.Matcher;
import java.util.regex.Pattern;

/** The public face, and those rules of LANGUAGE.md that can be seen in the file or by reflection. */
public final class FaceTest {
    private static final List<String> FACE = List.of(
        "int feed(int, int, int, int, int)", "boolean end(int)", "int text(int)", "int keep(int)", "int load()", "int size(int)",
        "int byteAt(int, int)", "int lines(int)", "int common(int, int)", "int pair(int, int, int)", "int changes(int, int)",
        "int change(int, int, int, int)", "int write(int, int, int, int)", "int out(int)", "int apply(int, int, int, int)",
        "int turn(int)", "int fault(int)", "int hunk(int, int)", "int join(int, int, int)", "int count(int)");
    private static int wrong = 0;

    public static void main(String[] args) throws Exception {
        lookAtFace();
        lookAtNestedClasses();
        lookAtSource();
        System.out.println(wrong == 0 ? "the face and the rules are kept" : wrong + " faults");
        if (wrong != 0) {
            System.exit(1);
        }
    }

    private static void lookAtFace() {
        Class<?> c = DiffBench.class;
        need(Modifier.isPublic(c.getModifiers()) && Modifier.isFinal(c.getModifiers()), "the class is public and final");
        TreeSet<String> open = new TreeSet<>();
        TreeSet<String> hidden = new TreeSet<>();
        for (Method m : c.getDeclaredMethods()) {
            String parameters = String.join(", ", Arrays.stream(m.getParameterTypes()).map(Class::getSimpleName).toList());
            boolean isPrivate = Modifier.isPrivate(m.getModifiers());
            (isPrivate ? hidden : open).add(isPrivate ? m.getName() : m.getReturnType().getSimpleName() + " " + m.getName() + "(" + parameters + ")");
            need(isPrivate || Modifier.isPublic(m.getModifiers()), m.getName() + " is public or private");
        }
        need(open.equals(new TreeSet<>(FACE)), "the public methods are those of the document: " + open);
        for (String method : FACE) {
            String name = method.substring(method.indexOf(' ') + 1, method.indexOf('('));
            need(!hidden.contains(name), "no private method bears the name " + name);
        }
        for (Field f : c.getDeclaredFields()) {
            need(Modifier.isPrivate(f.getModifiers()) || f.getName().equals("NONE"), f.getName() + " is private");
            need(!Modifier.isStatic(f.getModifiers()) || Modifier.isFinal(f.getModifiers()), f.getName() + " is final");
        }
        Constructor<?>[] constructors = c.getDeclaredConstructors();
        need(constructors.length == 1 && constructors[0].getParameterCount() == 0, "one constructor without parameters");
        need(Modifier.isPublic(constructors[0].getModifiers()), "the constructor is public");
    }

    private static void lookAtNestedClasses() {
        Class<?>[] nested = DiffBench.class.getDeclaredClasses();
        need(nested.length + 1 <= 12, "at most twelve classes");
        for (Class<?> c : nested) {
            need(Modifier.isStatic(c.getModifiers()), c.getSimpleName() + " is static");
            need(!Modifier.isPublic(c.getModifiers()) && !Modifier.isProtected(c.getModifiers()), c.getSimpleName() + " is not public");
            int fields = 0;
            for (Field f : c.getDeclaredFields()) {
                boolean isStatic = Modifier.isStatic(f.getModifiers());
                need(!isStatic || Modifier.isFinal(f.getModifiers()), f + " is final");
                fields += isStatic ? 0 : 1;
            }
            need(fields <= 20, c.getSimpleName() + " has at most twenty fields");
            for (Method m : c.getDeclaredMethods()) {
                need(m.getParameterCount() <= 7, m + " takes at most seven parameters");
            }
        }
    }

    private static void lookAtSource() throws Exception {
        String source = Files.readString(Path.of("src/main/java/DiffBench.java"), StandardCharsets.UTF_8);
        String code = source.replaceAll("(?s)/\\*.*?\\*/", "").replaceAll("//[^\n]*", "")
            .replaceAll("\"(\\\\.|[^\"\\\\])*\"", "TEXT").replaceAll("'(\\\\.|[^'\\\\])'", "0");
        for (String word : List.of("package", "import", "throw", "throws", "try", "catch", "synchronized", "assert", "protected",
                "volatile", "transient", "native", "Object", "Thread", "System\\.(?!arraycopy)", "java\\.")) {
            need(!Pattern.compile("\\b" + word).matcher(code).find(), "the word " + word + " is not in the file");
        }
        need(!code.contains("->") && !code.contains("::"), "no lambda, no method reference");
        need(!Pattern.compile("TEXT\\s*\\+|\\+\\s*TEXT").matcher(code).find(), "texts are not joined by +");
        lookAtMethodLengths(code);
    }

    private static void lookAtMethodLengths(String code) {
        String[] lines = code.split("\n");
        Pattern begin = Pattern.compile("^( {4}| {8})[A-Za-z].*\\) \\{$");
        for (int i = 0; i < lines.length; i++) {
            Matcher m = begin.matcher(lines[i]);
            if (m.matches()) {
                int end = i;
                while (end < lines.length && !lines[end].equals(m.group(1) + "}")) {
                    end++;
                }
                need(end - i + 1 <= 60, "a method of " + (end - i + 1) + " lines: " + lines[i].trim());
            }
        }
    }

    private static void need(boolean so, String what) {
        if (!so) {
            wrong++;
            System.out.println("not so: " + what);
        }
    }
}
