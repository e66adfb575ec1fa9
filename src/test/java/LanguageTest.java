import java.io.IOException;
import java.lang.reflect.Field;
import java.lang.reflect.Method;
import java.lang.reflect.Modifier;
import java.nio.file.Files;
import java.nio.file.Path;
import java.util.ArrayList;
import java.util.Arrays;
import java.util.List;
import java.util.Set;
import java.util.TreeSet;
import java.util.regex.Matcher;
import java.util.regex.Pattern;

/** The face of the class, and the rules of LANGUAGE.md that can be seen in the source. */
public final class LanguageTest {
    private static final Path SOURCE = Path.of("src/main/java/NumberedText.java");
    private static final int MOST_LINES = 60, MOST_PARAMETERS = 7, MOST_CLASSES = 12, MOST_FIELDS = 20;
    private static final Set<String> FACE = Set.of("put(int,int,int)", "cut(int)", "move(int,int)", "mark(int,int)",
            "piece(int,int,int,int)", "drop(int)", "about(int,int)", "number(int,int)", "told(int,int,int)", "count(int)",
            "set(int)", "page(int,int)", "used(int)", "round(int)", "list(int,int)", "best(int,int,int)", "means(int)",
            "called(int)", "far(int,int)", "knotted(int)", "keep(int)", "back(int)", "beside(int,int)", "feed(int,long)",
            "read()", "fault()", "style(int)");

    private static int wrong = 0;

    public static void main(String[] args) throws IOException {
        checkFace();
        List<Class<?>> classes = new ArrayList<>(Arrays.asList(NumberedText.class.getDeclaredClasses()));
        for (Class<?> inside : classes) {
            check(Modifier.isStatic(inside.getModifiers()), "not static: " + inside);
            check(!Modifier.isPublic(inside.getModifiers()), "public: " + inside);
            check(inside.getDeclaredClasses().length == 0, "classes inside " + inside);
        }
        classes.add(NumberedText.class);
        check(classes.size() <= MOST_CLASSES, "too many classes");
        for (Class<?> each : classes) {
            checkClass(each);
        }
        String source = withoutComments(Files.readString(SOURCE));
        checkWords(source);
        checkLengths(source);
        System.out.println(wrong == 0 ? "the rules are kept" : wrong + " faults");
        if (wrong != 0) {
            System.exit(1);
        }
    }

    private static void check(boolean fine, String why) {
        if (!fine) {
            wrong++;
            System.out.println(why);
        }
    }

    private static void checkFace() {
        Set<String> found = new TreeSet<>();
        for (Method m : NumberedText.class.getDeclaredMethods()) {
            if (Modifier.isPrivate(m.getModifiers())) {
                continue;
            }
            String types = String.join(",", Arrays.stream(m.getParameterTypes()).map(Class::getName).toList());
            found.add(m.getName() + "(" + types + ")");
            check(Modifier.isPublic(m.getModifiers()) && m.getReturnType() == int.class, "not as due: " + m);
        }
        check(found.equals(new TreeSet<>(FACE)), "the face is " + found);
        Set<String> constants = new TreeSet<>();
        for (Field f : NumberedText.class.getDeclaredFields()) {
            if (!Modifier.isPrivate(f.getModifiers())) {
                constants.add(f.getName());
            }
        }
        check(constants.equals(new TreeSet<>(Set.of("NONE", "UNKNOWN", "OUTSIDE", "NOT", "FULL"))), "constants " + constants);
        check(Modifier.isFinal(NumberedText.class.getModifiers()), "the class is not final");
        check(NumberedText.class.getConstructors().length == 1, "constructors");
    }

    private static void checkClass(Class<?> each) {
        int fields = 0;
        for (Field f : each.getDeclaredFields()) {
            boolean isStatic = Modifier.isStatic(f.getModifiers());
            fields += isStatic ? 0 : 1;
            check(!isStatic || Modifier.isFinal(f.getModifiers()), "static and not final: " + f);
        }
        check(fields <= MOST_FIELDS, "too many fields in " + each);
        for (Method m : each.getDeclaredMethods()) {
            check(m.getParameterCount() <= MOST_PARAMETERS, "too many parameters: " + m);
            boolean ofFace = FACE.stream().anyMatch(f -> f.startsWith(m.getName() + "("));
            check(!ofFace || each == NumberedText.class && Modifier.isPublic(m.getModifiers()), "a name of the face: " + m);
            check(!m.isSynthetic(), "synthetic: " + m);
        }
    }

    private static String withoutComments(String source) {
        return source.replaceAll("(?s)/\\*.*?\\*/", "").replaceAll("//[^\n]*", "");
    }

    private static void checkWords(String source) {
        String[] banned = {"throw", "throws", "try", "catch", "finally", "synchronized", "assert", "volatile", "transient",
            "native", "strictfp", "var", "protected", "package", "System\\.(?!arraycopy)", "Arrays\\.(?!fill|copyOf)", "Math\\.\\w+Exact",
            "hashCode", "toString", "Thread", "Random", "Object", "Exception", "->", "::", "@\\w+"};
        for (String word : banned) {
            String pattern = Character.isLetter(word.charAt(0)) ? "\\b" + word : word;
            pattern = word.matches("\\w+") ? pattern + "\\b" : pattern;
            Matcher m = Pattern.compile(pattern).matcher(source);
            check(!m.find(), "the source has " + word);
        }
        Matcher imports = Pattern.compile("import ([^;]+);").matcher(source);
        while (imports.find()) {
            check(Set.of("java.util.Arrays", "java.util.ArrayList", "java.util.List").contains(imports.group(1)), imports.group());
        }
        check(source.chars().allMatch(c -> c < 127), "a sign above 126");
    }

    /** Methods begin with a line that ends in '{' at the depth of members, and end with a lone '}' there. */
    private static void checkLengths(String source) {
        String[] lines = source.split("\n");
        for (int at = 0; at < lines.length; at++) {
            Matcher m = Pattern.compile("^( {4}| {8})[^ ].*\\).*\\{$").matcher(lines[at]);
            if (!m.matches() || lines[at].contains(" class ")) {
                continue;
            }
            int end = at;
            while (!lines[end].equals(m.group(1) + "}") && end < lines.length - 1) {
                end++;
            }
            check(end - at < MOST_LINES, "too long: " + lines[at].trim());
        }
    }
}
