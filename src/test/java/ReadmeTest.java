import java.io.IOException;
import java.lang.reflect.InvocationTargetException;
import java.lang.reflect.Method;
import java.lang.reflect.Modifier;
import java.nio.file.Files;
import java.nio.file.Path;
import java.util.List;
import java.util.Map;
import java.util.Set;
import java.util.TreeSet;
import java.util.regex.Matcher;
import java.util.regex.Pattern;
import java.util.stream.Stream;

/** Runs the examples of README.md, each call with the answer behind it, and looks whether the page names all there is. */
public final class ReadmeTest {
    private static final Path README = Path.of("README.md");
    private static final Path TESTS = Path.of("src/test/java");
    private static final Map<String, Integer> WORDS = Map.of("NONE", NumberedText.NONE, "UNKNOWN", NumberedText.UNKNOWN,
            "OUTSIDE", NumberedText.OUTSIDE, "NOT", NumberedText.NOT, "FULL", NumberedText.FULL);
    private static final String NEW_OBJECT = "NumberedText x = new NumberedText();";
    private static final Pattern EXAMPLE = Pattern.compile("x\\.(\\w+)\\(([^)]*)\\); *// (-?\\d+|[A-Z]+)(:.*)?");
    private static final Pattern FED = Pattern.compile(": \"([^\"]*)\"");

    private static int asked = 0;
    private static int wrong = 0;

    public static void main(String[] args) throws IOException, ReflectiveOperationException {
        List<String> lines = Files.readAllLines(README);
        Set<String> shown = runExamples(lines);
        checkNames(String.join("\n", lines), shown);
        System.out.println(asked + " examples, " + wrong + " faults");
        if (wrong != 0 || asked == 0) {
            System.exit(1);
        }
    }

    private static void check(boolean fine, String why) {
        if (!fine) {
            wrong++;
            System.out.println(why);
        }
    }

    /** The names of the calls that were shown. */
    private static Set<String> runExamples(List<String> lines) throws ReflectiveOperationException {
        Set<String> shown = new TreeSet<>();
        boolean inExample = false;
        NumberedText x = null;
        for (String line : lines) {
            if (line.startsWith("```")) {
                inExample = line.equals("```java");
                x = null;
            } else if (inExample && line.equals(NEW_OBJECT)) {
                x = new NumberedText();
            } else if (inExample) {
                Matcher m = EXAMPLE.matcher(line);
                boolean readable = m.matches() && x != null;
                check(readable, "no call with its answer: " + line);
                if (readable) {
                    shown.add(m.group(1));
                    runOne(x, m, line);
                }
            }
        }
        return shown;
    }

    private static void runOne(NumberedText x, Matcher m, String line) throws ReflectiveOperationException {
        Method call = callOf(m.group(1));
        check(call != null, "no such call: " + line);
        Integer due = WORDS.containsKey(m.group(3)) ? WORDS.get(m.group(3)) : numberOf(m.group(3));
        check(due != null, "no answer: " + line);
        if (call == null || due == null) {
            return;
        }
        Object[] values = valuesOf(call, m.group(2));
        checkFed(values, m.group(4), line);
        asked++;
        try {
            Object got = call.invoke(x, values);
            check(due.equals(got), "answered " + got + ": " + line);
        } catch (InvocationTargetException e) {
            check(false, "threw " + e.getCause() + ": " + line);
        }
    }

    private static Method callOf(String name) {
        for (Method m : NumberedText.class.getDeclaredMethods()) {
            if (Modifier.isPublic(m.getModifiers()) && m.getName().equals(name)) {
                return m;
            }
        }
        return null;
    }

    private static Integer numberOf(String text) {
        return text.matches("-?\\d+") ? Integer.valueOf(text) : null;
    }

    private static Object[] valuesOf(Method call, String text) {
        String[] told = text.isBlank() ? new String[0] : text.split(", *");
        check(told.length == call.getParameterCount(), "not as many numbers as " + call + " takes: " + text);
        Object[] values = new Object[told.length];
        for (int k = 0; k < told.length && k < call.getParameterCount(); k++) {
            if (call.getParameterTypes()[k] == long.class) {
                values[k] = Long.decode(told[k].replaceFirst("L$", ""));
            } else {
                values[k] = Integer.decode(told[k]);
            }
        }
        return values;
    }

    /** What is fed must be the bytes of the text that is shown behind it. */
    private static void checkFed(Object[] values, String remark, String line) {
        if (values.length != 2 || !(values[1] instanceof Long)) {
            return;
        }
        Matcher m = FED.matcher(remark == null ? "" : remark);
        check(m.matches(), "it is not shown what is fed: " + line);
        if (m.matches()) {
            long bytes = 0;
            for (char c : m.group(1).toCharArray()) {
                bytes = bytes << 8 | c;
            }
            check(values[0].equals(m.group(1).length()) && values[1].equals(bytes), "something else is fed: " + line);
        }
    }

    private static void checkNames(String page, Set<String> shown) throws IOException {
        for (Method m : NumberedText.class.getDeclaredMethods()) {
            if (Modifier.isPublic(m.getModifiers())) {
                check(page.contains("\n| `" + m.getName() + "("), "not in the table of calls: " + m.getName());
            }
        }
        for (String word : WORDS.keySet()) {
            check(page.contains("`" + word + "`"), "not told: " + word);
            check(page.contains(String.valueOf(WORDS.get(word))), "its number is not told: " + word);
        }
        check(shown.size() >= 20, "few calls are shown: " + shown);
        check(page.contains("\n.ci/run\n"), "it is not told how to run the tests");
        try (Stream<Path> tests = Files.list(TESTS)) {
            tests.map(p -> p.getFileName().toString().replace(".java", ""))
                    .forEach(name -> check(page.contains("`" + name + "`"), "a test that is not told: " + name));
        }
    }
}
