import java.lang.reflect.InvocationTargetException;
import java.lang.reflect.Method;
import java.lang.reflect.Modifier;
import java.util.Arrays;
import java.util.Random;

/** Calls with any arguments in any state: none may throw, and what is refused changes nothing. */
public final class WildCallsTest {
    private static final int[] WILD = {Integer.MIN_VALUE, Integer.MAX_VALUE, -1001, -2, -1, 0, 1, 2, 3, 4, 5, 7, 8, 9, 10,
        19, 20, 21, 59, 60, 61, 99, 100, 159, 160, 199, 200, 1199, 1200, 1261};

    public static void main(String[] args) throws IllegalAccessException {
        Method[] calls = Arrays.stream(NumberedText.class.getDeclaredMethods())
                .filter(m -> Modifier.isPublic(m.getModifiers())).toArray(Method[]::new);
        Arrays.sort(calls, (a, b) -> a.getName().compareTo(b.getName()));
        for (int seed = 0; seed < 30; seed++) {
            Random random = new Random(seed);
            NumberedText x = new NumberedText();
            if (seed % 2 == 0) {
                fill(x, seed);
            }
            for (int n = 0; n < 3000; n++) {
                call(x, calls[random.nextInt(calls.length)], random);
            }
        }
        fullest();
        System.out.println("no call threw");
    }

    private static void call(NumberedText x, Method method, Random random) throws IllegalAccessException {
        Class<?>[] types = method.getParameterTypes();
        Object[] arguments = new Object[types.length];
        for (int k = 0; k < types.length; k++) {
            if (types[k] == long.class) {
                arguments[k] = random.nextLong();
            } else if (random.nextInt(3) == 0) {
                arguments[k] = WILD[random.nextInt(WILD.length)];
            } else {
                arguments[k] = random.nextInt(8);
            }
        }
        int[] before = state(x);
        Object answer = null;
        try {
            answer = method.invoke(x, arguments);
        } catch (InvocationTargetException e) {
            fail(method.getName() + Arrays.toString(arguments) + " threw " + e.getCause());
        }
        boolean refused = (Integer) answer <= NumberedText.UNKNOWN;
        if (refused && !Arrays.equals(before, state(x))) {
            fail(method.getName() + Arrays.toString(arguments) + " was refused, but changed something");
        }
    }

    private static int[] state(NumberedText x) {
        int[] state = new int[28];
        for (int what = 0; what < 10; what++) {
            state[what] = x.count(what);
        }
        for (int what = 0; what < 13; what++) {
            state[10 + what] = x.style(what);
        }
        for (int what = 0; what < 5; what++) {
            state[23 + what] = x.set(what);
        }
        return state;
    }

    /** Sixty items with as many pieces as there can be: a page for each line. */
    private static void fill(NumberedText x, int seed) {
        Random random = new Random(seed);
        for (int i = 0; i < 60; i++) {
            x.put(i, random.nextInt(7), 1 + random.nextInt(4));
            x.mark(i, random.nextInt(30));
            for (int k = 0; k < 20; k++) {
                x.piece(i, random.nextInt(3), 1 + random.nextInt(5), random.nextInt(3));
            }
        }
        x.keep(seed % 3);
    }

    /** As many lines and pages as there can be, as many sections and list lines as there can be. */
    private static void fullest() {
        NumberedText x = new NumberedText();
        read(x, "page 8 by 10;");
        for (int i = 0; i < 60; i++) {
            x.put(i, 1, 0);
            for (int k = 0; k < 20; k++) {
                x.piece(i, k % 2 == 0 ? 0 : 2, k % 2 == 0 ? 10 : 5, 0);
            }
        }
        due("pages of notes", x.set(3), 600);
        due("pieces", x.count(2), 1200);
        due("count of the last note", x.told(59, 19, 7), 600);
        NumberedText y = new NumberedText();
        for (int i = 0; i < 60; i++) {
            y.put(i, i % 2 == 0 ? 0 : 4, i % 2 == 0 ? 1 : 4);
        }
        due("lines of a list", y.page(59, 1), 30);
        due("pages of lists", y.set(3) > 40 ? 1 : 0, 1);
        NumberedText z = new NumberedText();
        z.put(0, 4, 1);
        for (int i = 1; i < 60; i++) {
            z.put(i, 0, 1);
        }
        due("lines of the longest list", z.page(0, 1), 59);
        due("page of its last line", z.page(0, 2), 3);
        due("far", z.far(1, 59), -1);
    }

    private static void read(NumberedText x, String style) {
        for (char sign : style.toCharArray()) {
            x.feed(1, sign);
        }
        due("read " + style, x.read(), 1);
    }

    private static void due(String call, int got, int want) {
        if (got != want) {
            fail(call + " answered " + got + ", due is " + want);
        }
    }

    private static void fail(String why) {
        System.out.println(why);
        System.exit(1);
    }
}
