import java.lang.reflect.InvocationTargetException;
import java.lang.reflect.Method;
import java.lang.reflect.Modifier;
import java.nio.charset.StandardCharsets;
import java.util.Arrays;

/** What the tests of single sentences share: the count of wrong answers, and quick ways to build a text. */
final class Desk {
    static final int NONE = -1, UNKNOWN = -1001, OUTSIDE = -1002, NOT = -1003, FULL = -1004;
    static final int HEADING = 0, PARAGRAPH = 1, FIGURE = 2, TABLE = 3, HEADINGS = 4, FIGURES = 5, TABLES = 6;
    static final int WORD = 0, CALL = 1, NOTE = 2;
    static final int NUMBER = 0, PAGE = 1, PLACE = 2;
    static final int LEAST = Integer.MIN_VALUE, MOST = Integer.MAX_VALUE;

    private static String words = "";
    private static int sentences = 0;
    private static int asked = 0;
    private static int wrong = 0;

    private Desk() {
    }

    /** A test is a static method without parameters that is not private; each one is of one sentence. */
    static void runAll(Class<?> tests) throws IllegalAccessException {
        Method[] methods = tests.getDeclaredMethods();
        Arrays.sort(methods, (a, b) -> a.getName().compareTo(b.getName()));
        for (Method test : methods) {
            if (test.getParameterCount() == 0 && !Modifier.isPrivate(test.getModifiers())) {
                runOne(test);
            }
        }
        System.out.println(sentences + " sentences, " + asked + " answers, " + wrong + " of them not as due");
        if (wrong != 0 || sentences == 0) {
            System.exit(1);
        }
    }

    private static void runOne(Method test) throws IllegalAccessException {
        words = "no sentence";
        int before = asked;
        try {
            test.invoke(null);
        } catch (InvocationTargetException e) {
            wrong++;
            System.out.println(test.getName() + " (" + words + ") threw " + e.getCause());
        }
        if (asked == before || words.equals("no sentence")) {
            wrong++;
            System.out.println(test.getName() + " asked nothing, or tells no sentence");
        }
    }

    /** The words of the document that the answers from here on hold to. */
    static void sentence(String ofTheDocument) {
        words = ofTheDocument;
        sentences++;
    }

    static void due(String call, int got, int want) {
        asked++;
        if (got != want) {
            wrong++;
            System.out.println("\"" + words + "\": " + call + " answered " + got + ", due is " + want);
        }
    }

    // ---- texts

    static int feed(NumberedText x, String text) {
        byte[] bytes = text.getBytes(StandardCharsets.ISO_8859_1);
        int length = x.count(8);
        for (int from = 0; from < bytes.length; from += 8) {
            int n = Math.min(8, bytes.length - from);
            long eight = 0;
            for (int k = 0; k < n; k++) {
                eight = eight << 8 | bytes[from + k] & 255;
            }
            length = x.feed(n, eight);
        }
        return length;
    }

    static int read(NumberedText x, String text) {
        feed(x, text);
        return x.read();
    }

    static NumberedText styled(String text) {
        NumberedText x = new NumberedText();
        int clauses = (int) text.chars().filter(c -> c == ';').count();
        due("read of '" + text + "'", read(x, text), clauses);
        return x;
    }

    /** Puts an item at the end: its place. */
    static int add(NumberedText x, int kind, int a) {
        int place = x.count(0);
        x.put(place, kind, a);
        return place;
    }

    /** Puts a paragraph at the end whose pieces are told by three numbers each: its place. */
    static int addPieces(NumberedText x, int... threes) {
        int place = add(x, PARAGRAPH, 0);
        for (int k = 0; k + 2 < threes.length; k += 3) {
            x.piece(place, threes[k], threes[k + 1], threes[k + 2]);
        }
        return place;
    }

    /** A paragraph of n lines (20 at most), where lines have fewer than 41 letters. */
    static int addLines(NumberedText x, int n) {
        int place = add(x, PARAGRAPH, 0);
        for (int k = 0; k < n; k++) {
            x.piece(place, WORD, 20, 0);
        }
        return place;
    }

    static void dueNames(NumberedText x, int... names) {
        due("count(0)", x.count(0), names.length);
        for (int i = 0; i < names.length; i++) {
            due("about(" + i + ", 0)", x.about(i, 0), names[i]);
        }
    }

    static void dueStyle(NumberedText x, int... all) {
        for (int what = 0; what < all.length; what++) {
            due("style(" + what + ")", x.style(what), all[what]);
        }
    }
}
