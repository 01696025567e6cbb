import java.io.File;
import java.io.IOException;
import java.lang.reflect.Method;
import java.lang.reflect.Modifier;
import java.nio.file.Files;
import java.nio.file.Path;
import java.util.ArrayList;
import java.util.Arrays;
import java.util.HashMap;
import java.util.List;
import java.util.Map;
import java.util.Set;
import java.util.TreeSet;
import java.util.regex.Matcher;
import java.util.regex.Pattern;

/**
 * README.md is there, says how to use the class and how to run its tests, and its example is true. To be
 * started in the project's directory.
 */
public final class ReadmeTest {
    private static final Path README = Path.of("README.md");
    private static final Path TESTS = Path.of("src/test/java");
    private static final String USE = "## How to use the class";
    private static final String RUN = "## How to run the tests";

    /** A row of the table: the call in its first cell, what is said of it in the second. */
    private static final Pattern ROW = Pattern.compile("\\| `([^`]+)` \\|(.*)\\|");
    /** A call in the example, and the answer that stands behind it. */
    private static final Pattern CALL = Pattern.compile("x\\.(\\w+)\\(([^)]*)\\); *(?:// (-?\\w+).*)?");
    private static final Pattern CODE = Pattern.compile("```(java|text)");

    private static final Checks CHECK = new Checks();

    public static void main(String[] args) throws IOException, ReflectiveOperationException {
        boolean there = Files.isRegularFile(README);
        CHECK.due("README.md is there", there, true);
        if (there) {
            List<String> lines = Files.readAllLines(README);
            List<String> use = section(lines, USE);
            List<String> run = section(lines, RUN);
            tellsEachCall(use);
            exampleIsTrue(use);
            tellsTheTests(run);
        }
        CHECK.end();
    }

    /** The lines from the heading to the next one of its rank. */
    private static List<String> section(List<String> lines, String heading) {
        int from = lines.indexOf(heading);
        CHECK.due("README.md has \"" + heading + "\"", from >= 0, true);
        List<String> part = new ArrayList<>();
        for (int i = from + 1; from >= 0 && i < lines.size() && !lines.get(i).startsWith("## "); i++) {
            part.add(lines.get(i));
        }
        return part;
    }

    private static Set<String> face() {
        Set<String> face = new TreeSet<>();
        for (Method method : WordChecker.class.getDeclaredMethods()) {
            if (Modifier.isPublic(method.getModifiers())) {
                face.add(FaceTest.told(method));
            }
        }
        face.add("WordChecker()");
        return face;
    }

    private static void tellsEachCall(List<String> use) {
        Map<String, String> told = new HashMap<>();
        for (String line : use) {
            Matcher row = ROW.matcher(line);
            if (row.matches()) {
                // The face tells a method without the names of its parameters.
                told.put(row.group(1).replaceAll("int \\w+(?=[,)])", "int"), row.group(2).trim());
            }
        }
        for (String call : face()) {
            CHECK.due("README.md tells " + call, !told.getOrDefault(call, "").isEmpty(), true);
        }
        for (String call : told.keySet()) {
            CHECK.due(call + " in README.md is of the face", face().contains(call), true);
        }
    }

    /** Goes through the blocks of code in order: types the lines of a text, makes the calls of Java. */
    private static void exampleIsTrue(List<String> use) throws ReflectiveOperationException {
        WordChecker x = new WordChecker();
        Set<String> called = new TreeSet<>();
        String code = "";
        for (String line : use) {
            Matcher opens = CODE.matcher(line);
            if (opens.matches()) {
                code = opens.group(1);
            } else if (line.equals("```")) {
                code = "";
            } else if (code.equals("text")) {
                CHECK.more(x, line);
            } else if (code.equals("java") && line.contains("new WordChecker()")) {
                x = new WordChecker();
            } else if (code.equals("java")) {
                called.add(call(x, line));
            }
        }
        for (Method method : WordChecker.class.getDeclaredMethods()) {
            if (Modifier.isPublic(method.getModifiers())) {
                CHECK.due("the example calls " + method.getName(), called.contains(method.getName()), true);
            }
        }
    }

    /** Makes the call that the line tells; answers the method's name. */
    private static String call(WordChecker x, String line) throws ReflectiveOperationException {
        Matcher told = CALL.matcher(line);
        CHECK.due("a call with its answer: " + line, told.matches(), true);
        if (!told.matches()) {
            return "";
        }
        List<Object> values = new ArrayList<>();
        for (String value : told.group(2).split(", *")) {
            if (!value.isEmpty()) {
                values.add(Integer.decode(value));
            }
        }
        Class<?>[] types = new Class<?>[values.size()];
        Arrays.fill(types, int.class);
        Method method = WordChecker.class.getMethod(told.group(1), types);
        Object got = method.invoke(x, values.toArray());
        String due = told.group(3);
        CHECK.due(line + " (answered " + got + ")", String.valueOf(got).equals(String.valueOf(due)), true);
        return method.getName();
    }

    private static void tellsTheTests(List<String> run) {
        CHECK.due("README.md has the line that runs all tests", run.contains("    .ci/run"), true);
        CHECK.due(".ci/run is there", new File(".ci/run").canExecute(), true);
        String text = String.join("\n", run);
        String[] files = TESTS.toFile().list();
        CHECK.due("there are tests", files != null && files.length > 0, true);
        for (String file : files == null ? new String[0] : files) {
            CHECK.due("README.md tells of " + file, text.contains(file), true);
        }
    }
}
