import java.nio.charset.StandardCharsets;
import java.util.ArrayDeque;
import java.util.ArrayList;
import java.util.Arrays;
import java.util.Collections;
import java.util.HashMap;
import java.util.HashSet;
import java.util.List;
import java.util.Map;
import java.util.Random;
import java.util.Set;
import java.util.regex.Matcher;
import java.util.regex.Pattern;

/**
 * Runs of calls by chance (with fixed seeds) on the class and on a model that is written another way,
 * with texts instead of their lengths: every answer must be the same.
 */
public final class RandomRunsTest {
    private static final int RUNS = 300;
    private static final int CALLS = 400;
    /** A chain is soon torn by calls by chance, so it is looked at behind each of a few. */
    private static final int CALLS_ON_CHAINS = 12;

    public static void main(String[] args) {
        int runs = args.length > 0 ? Integer.parseInt(args[0]) : RUNS;
        int seed0 = args.length > 1 ? Integer.parseInt(args[1]) : 0;
        int[] outcomes = new int[3];
        int[] periods = new int[13];
        for (int seed = seed0; seed < seed0 + runs; seed++) {
            Run run = new Run(seed);
            boolean isChain = seed % 8 == 7;
            if (isChain) {
                run.buildChain();
            }
            for (int n = 0; n < (isChain ? CALLS_ON_CHAINS : CALLS); n++) {
                run.step();
                if (isChain || n % 20 == 19) {
                    run.compareAll();
                    outcomes[run.model.setting().outcome]++;
                    periods[run.model.setting().period]++;
                }
                if (run.wrong > 0) {
                    System.out.println("seed " + seed + ", call " + n + ": " + run.story);
                    System.exit(1);
                }
            }
        }
        System.out.println(runs + " runs; settled, goes round, open: " + Arrays.toString(outcomes)
                + "; periods: " + Arrays.toString(periods));
        if (outcomes[0] == 0 || outcomes[1] == 0 || outcomes[2] == 0) {
            System.out.println("some outcome never came");
            System.exit(1);
        }
    }
}

final class Run {
    final Random random;
    final NumberedText real = new NumberedText();
    final Model model = new Model();
    final StringBuilder story = new StringBuilder();
    final int marks;
    final int flavour;
    int wrong = 0;

    Run(int seed) {
        random = new Random(seed);
        marks = 1 + random.nextInt(12);
        flavour = random.nextInt(4);
        if (random.nextInt(5) > 0) {
            readStyle("page " + (8 + random.nextInt(flavour == 0 ? 30 : 6)) + " by " + (10 + random.nextInt(30)) + ";"
                    + (random.nextBoolean() ? "notes anew;" : "") + (random.nextBoolean() ? "figures anew;" : "")
                    + (random.nextBoolean() ? "chapters new;" : ""));
        }
    }

    /** Chapters, in each of which a call changes one round behind that of the chapter ahead; some with a ring behind. */
    void buildChain() {
        readStyle("page 8 by 10;chapters new;" + (random.nextBoolean() ? "notes anew;" : ""));
        int chapters = 8 + random.nextInt(6);
        for (int c = 1; c <= chapters; c++) {
            add(0, 1, -1);
            add(1, 0, -1, 0, 4, 0, 1, c - 1, 2, 0, 20, 0, 0, 20, 0);
            add(1, 0, c, 0, 20, 0, 0, 20, 0, 0, 20, 0);
            if (c == 1) {
                add(1, 0, 0, 0, 20, 0);
            }
        }
        if (random.nextBoolean()) {
            add(0, 1, -1);
            add(1, 0, -1, 0, 4, 0, 1, 77, 2);
            add(1, 0, -1, 0, 20, 0, 0, 20, 0, 0, 20, 0, 0, 20, 0, 0, 20, 0, 0, 20, 0, 0, 20, 0, 0, 20, 0, 0, 20, 0, 0, 20, 0,
                    0, 20, 0);
            add(1, 0, 77, 0, 20, 0);
        }
    }

    private void add(int kind, int a, int mark, int... pieces) {
        int i = model.items.size();
        due("put(" + i + ", " + kind + ", " + a + ")", real.put(i, kind, a), model.put(i, kind, a));
        due("mark(" + i + ", " + mark + ")", real.mark(i, mark), model.mark(i, mark));
        for (int k = 0; k + 2 < pieces.length; k += 3) {
            due("piece(" + i + ")", real.piece(i, pieces[k], pieces[k + 1], pieces[k + 2]),
                    model.piece(i, pieces[k], pieces[k + 1], pieces[k + 2]));
        }
    }

    void due(String call, int got, int want) {
        if (got != want) {
            wrong++;
            story.append('\n').append(call).append(" answered ").append(got).append(", due is ").append(want);
        }
    }

    int some(int least, int most) {
        return random.nextInt(60) == 0 ? random.nextInt(250) - 50 : least + random.nextInt(Math.max(1, most - least + 1));
    }

    int somePlace() {
        return some(0, model.items.size() - 1);
    }

    void step() {
        model.kept = null;
        int dice = random.nextInt(100);
        if (dice < 22) {
            int[] kinds = {0, 0, 1, 1, 1, 1, 1, 2, 3, 4, 5, 6};
            int i = some(0, model.items.size());
            int kind = random.nextInt(40) == 0 ? some(-1, 8) : kinds[random.nextInt(kinds.length)];
            int a = kind == 2 || kind == 3 ? some(1, 8) : some(1, 4);
            due("put(" + i + ", " + kind + ", " + a + ")", real.put(i, kind, a), model.put(i, kind, a));
        } else if (dice < 25) {
            int i = somePlace();
            due("cut(" + i + ")", real.cut(i), model.cut(i));
        } else if (dice < 30) {
            int i = somePlace();
            int j = somePlace();
            due("move(" + i + ", " + j + ")", real.move(i, j), model.move(i, j));
        } else if (dice < 40) {
            int i = somePlace();
            int m = some(random.nextInt(4) == 0 ? -1 : 0, marks);
            due("mark(" + i + ", " + m + ")", real.mark(i, m), model.mark(i, m));
        } else if (dice < 82) {
            stepPieces();
        } else if (dice < 85) {
            int i = somePlace();
            due("drop(" + i + ")", real.drop(i), model.drop(i));
        } else if (dice < 92) {
            int v = some(0, 2);
            if (random.nextBoolean()) {
                due("keep(" + v + ")", real.keep(v), model.keep(v));
            } else if (random.nextInt(3) == 0) {
                due("back(" + v + ")", real.back(v), model.back(v));
            }
        } else {
            readStyle(someStyle());
        }
    }

    void stepPieces() {
        int i = somePlace();
        for (int tries = 0; tries < 5 && i >= 0 && i < model.items.size() && model.items.get(i).kind != 1; tries++) {
            i = somePlace();
        }
        int n = 1 + random.nextInt(6);
        for (int k = 0; k < n; k++) {
            int dice = random.nextInt(10);
            int kind = random.nextInt(60) == 0 ? some(-1, 4) : dice < 3 ? 0 : dice < 8 ? 1 : 2;
            int a = kind == 0 ? some(1, 20) : kind == 1 ? some(0, marks) : some(1, 5);
            int b = kind == 1 ? flavour == 1 && random.nextInt(3) > 0 ? 2 : some(0, 2) : random.nextInt(5) - 2;
            due("piece(" + i + ", " + kind + ", " + a + ", " + b + ")", real.piece(i, kind, a, b), model.piece(i, kind, a, b));
        }
    }

    String someStyle() {
        String[] parts = {"page", "by", "level", "figures", "notes", "chapters", "anew", "on", "new", "letters", "roman",
            "long", "x", "pag", "1", "2", "3", "4", "5", "8", "9", "10", "60", "61", "90", "91", "100", "07", "008", ";", ";",
            ";", " ", "  ", "A", "\u00e4", "-", "pageby", "0"};
        StringBuilder text = new StringBuilder();
        int clauses = random.nextInt(5);
        for (int c = 0; c < clauses; c++) {
            int dice = random.nextInt(6);
            String gap = random.nextInt(5) == 0 ? "  " : " ";
            String tight = random.nextBoolean() ? "" : gap;
            String[] forms = {"figures", "letters", "roman"};
            switch (dice) {
                case 0 -> text.append("page").append(tight).append(some(8, 20)).append(tight).append("by").append(gap)
                        .append(some(10, 40)).append(tight).append(';');
                case 1, 2 -> text.append("level").append(tight).append(some(1, 4)).append(tight)
                        .append(forms[random.nextInt(3)]).append(random.nextBoolean() ? gap + "long" : "").append(tight).append(';');
                case 3 -> text.append("figures").append(gap).append(random.nextBoolean() ? "anew" : "on").append(";");
                case 4 -> text.append("notes").append(gap).append(random.nextBoolean() ? "anew" : "on").append(" ;");
                default -> text.append("chapters").append(gap).append(random.nextBoolean() ? "new" : "on").append(";").append(tight);
            }
        }
        if (random.nextInt(3) == 0) {
            int spoils = 1 + random.nextInt(2);
            for (int s = 0; s < spoils; s++) {
                int at = random.nextInt(text.length() + 1);
                int to = Math.min(text.length(), at + random.nextInt(3));
                text.replace(at, to, parts[random.nextInt(parts.length)]);
            }
        }
        if (random.nextInt(8) == 0) {
            text.setLength(0);
            int n = random.nextInt(9);
            for (int k = 0; k < n; k++) {
                text.append(parts[random.nextInt(parts.length)]).append(random.nextInt(3) == 0 ? "" : " ");
            }
        }
        return text.toString();
    }

    void readStyle(String text) {
        model.kept = null;
        byte[] bytes = text.getBytes(StandardCharsets.ISO_8859_1);
        int from = 0;
        while (from < bytes.length) {
            int n = Math.min(bytes.length - from, 1 + random.nextInt(8));
            long eight = random.nextLong();
            for (int k = 0; k < n; k++) {
                eight = eight << 8 | bytes[from + k] & 255;
            }
            due("feed(" + n + ")", real.feed(n, eight), model.feed(n, eight));
            from += n;
        }
        if (random.nextInt(20) == 0) {
            int n = random.nextInt(12) - 1;
            due("feed(" + n + ")", real.feed(n, 0), model.feed(n, 0));
        }
        due("read() of '" + text + "'", real.read(), model.read());
        due("fault() of '" + text + "'", real.fault(), model.fault);
    }

    void compareAll() {
        int n = model.items.size();
        Model.Set set = model.setting();
        for (int what = -1; what <= 10; what++) {
            due("count(" + what + ")", real.count(what), model.count(what));
        }
        for (int what = -1; what <= 13; what++) {
            due("style(" + what + ")", real.style(what), model.styleOf(what));
        }
        for (int what = -1; what <= 5; what++) {
            due("set(" + what + ")", real.set(what), model.set(what));
        }
        for (int i = -1; i <= n; i++) {
            compareItem(i);
        }
        for (int p = -1; p <= set.pages + 1; p++) {
            due("used(" + p + ")", real.used(p), model.used(p));
        }
        for (int r = -1; r <= 12; r++) {
            due("round(" + r + ")", real.round(r), model.round(r));
        }
        for (int m = -2; m <= 101; m++) {
            due("means(" + m + ")", real.means(m), m < 0 || m > 99 ? Model.OUTSIDE : model.means(m));
        }
        for (int v = -1; v <= 3; v++) {
            for (int what = -1; what <= 5; what++) {
                due("beside(" + v + ", " + what + ")", real.beside(v, what), model.beside(v, what));
            }
        }
        int a = 7 + random.nextInt(54);
        int b = a - 2 + random.nextInt(20);
        for (int what = -1; what <= 2; what++) {
            due("best(" + a + ", " + b + ", " + what + ")", real.best(a, b, what), model.best(a, b, what));
        }
    }

    void compareItem(int i) {
        for (int what = -1; what <= 8; what++) {
            due("about(" + i + ", " + what + ")", real.about(i, what), model.about(i, what));
        }
        for (int k = 0; k <= 5; k++) {
            due("number(" + i + ", " + k + ")", real.number(i, k), model.number(i, k));
        }
        for (int what = -1; what <= 3; what++) {
            due("page(" + i + ", " + what + ")", real.page(i, what), model.page(i, what));
        }
        int pieces = i >= 0 && i < model.items.size() ? model.items.get(i).pieces.size() : 0;
        for (int k = -1; k <= pieces; k++) {
            for (int what = -1; what <= 8; what++) {
                due("told(" + i + ", " + k + ", " + what + ")", real.told(i, k, what), model.told(i, k, what));
            }
        }
        for (int k = -1; k <= 12; k++) {
            due("list(" + i + ", " + k + ")", real.list(i, k), model.list(i, k));
        }
        due("called(" + i + ")", real.called(i), model.called(i));
        due("knotted(" + i + ")", real.knotted(i), model.knotted(i));
        for (int j = -1; j <= model.items.size(); j += 1 + random.nextInt(3)) {
            due("far(" + i + ", " + j + ")", real.far(i, j), model.far(i, j));
        }
    }
}

/** The document once more, with lists, maps and texts. */
final class Model {
    static final int NONE = -1, UNKNOWN = -1001, OUTSIDE = -1002, NOT = -1003, FULL = -1004;

    record Piece(int kind, int a, int b) { }

    static final class Thing {
        int name, kind, a, mark = NONE;
        List<Piece> pieces = new ArrayList<>();

        Thing copy() {
            Thing t = new Thing();
            t.name = name;
            t.kind = kind;
            t.a = a;
            t.mark = mark;
            t.pieces = new ArrayList<>(pieces);
            return t;
        }
    }

    List<Thing> items = new ArrayList<>();
    int[] style = {20, 40, 0, 0, 0, 0, 1, 1, 1, 1, 0, 0, 0};
    final Model[] versions = new Model[3];
    int names = 0;
    int fault = NONE;
    String fed = "";

    boolean has(int i) {
        return i >= 0 && i < items.size();
    }

    // ---- items

    int put(int i, int kind, int a) {
        if (i < 0 || i > items.size() || kind < 0 || kind > 6) {
            return OUTSIDE;
        }
        int most = List.of(4, 0, 8, 8, 4, 0, 0).get(kind);
        if (most > 0 && (a < 1 || a > most)) {
            return OUTSIDE;
        }
        if (items.size() == 60 || names == 200) {
            return FULL;
        }
        Thing t = new Thing();
        t.name = names++;
        t.kind = kind;
        t.a = most > 0 ? a : 0;
        items.add(i, t);
        return t.name;
    }

    int cut(int i) {
        return has(i) ? items.remove(i).name : UNKNOWN;
    }

    int move(int i, int j) {
        if (!has(i) || !has(j)) {
            return UNKNOWN;
        }
        items.add(j, items.remove(i));
        return 1;
    }

    int mark(int i, int m) {
        if (!has(i)) {
            return UNKNOWN;
        }
        if (m < -1 || m > 99) {
            return OUTSIDE;
        }
        int was = items.get(i).mark;
        items.get(i).mark = m;
        return was;
    }

    int piece(int i, int kind, int a, int b) {
        if (!has(i)) {
            return UNKNOWN;
        }
        boolean fine = kind == 0 && a >= 1 && a <= 20 || kind == 1 && a >= 0 && a <= 99 && b >= 0 && b <= 2
                || kind == 2 && a >= 1 && a <= 5;
        if (!fine) {
            return OUTSIDE;
        }
        if (items.get(i).kind != 1) {
            return NOT;
        }
        List<Piece> pieces = items.get(i).pieces;
        if (pieces.size() == 20) {
            return FULL;
        }
        pieces.add(new Piece(kind, a, kind == 1 ? b : 0));
        return pieces.size();
    }

    int drop(int i) {
        if (!has(i)) {
            return UNKNOWN;
        }
        List<Piece> pieces = items.get(i).pieces;
        if (pieces.isEmpty()) {
            return NOT;
        }
        pieces.remove(pieces.size() - 1);
        return pieces.size();
    }

    int sectionOf(int i) {
        for (int j = i; j >= 0; j--) {
            if (items.get(j).kind == 0) {
                return j;
            }
        }
        return NONE;
    }

    /** Counts of the levels up to that of the heading at place h, looked for backwards. */
    List<Integer> rowOfHeading(int h) {
        List<Integer> row = new ArrayList<>();
        for (int level = 1; level <= items.get(h).a; level++) {
            int n = 0;
            for (int j = 0; j <= h; j++) {
                if (items.get(j).kind == 0 && items.get(j).a < level) {
                    n = 0;
                }
                if (items.get(j).kind == 0 && items.get(j).a == level) {
                    n++;
                }
            }
            row.add(n);
        }
        return row;
    }

    List<Integer> row(int i) {
        int h = sectionOf(i);
        return h == NONE ? List.of(0) : rowOfHeading(h);
    }

    int chapter(int i) {
        int n = 0;
        for (int j = 0; j <= i; j++) {
            if (items.get(j).kind == 0 && items.get(j).a == 1) {
                n++;
            }
        }
        return n;
    }

    int countOf(int i) {
        Thing t = items.get(i);
        if (t.kind == 0) {
            return row(i).get(t.a - 1);
        }
        if (t.kind != 2 && t.kind != 3) {
            return 0;
        }
        int n = 0;
        for (int j = 0; j <= i; j++) {
            if (items.get(j).kind == t.kind && (style[10] == 0 || chapter(j) == chapter(i))) {
                n++;
            }
        }
        return n;
    }

    static String say(int n, int form) {
        if (n == 0) {
            return "0";
        }
        if (form == 0) {
            return String.valueOf(n);
        }
        StringBuilder s = new StringBuilder();
        if (form == 1) {
            for (int rest = n; rest > 0; rest = (rest - 1) / 26) {
                s.insert(0, (char) ('a' + (rest - 1) % 26));
            }
            return s.toString();
        }
        int[] values = {100, 90, 50, 40, 10, 9, 5, 4, 1};
        String[] signs = {"c", "xc", "l", "xl", "x", "ix", "v", "iv", "i"};
        int rest = n;
        for (int k = 0; k < values.length; k++) {
            while (rest >= values[k]) {
                s.append(signs[k]);
                rest -= values[k];
            }
        }
        return s.toString();
    }

    String said(int i) {
        Thing t = items.get(i);
        if (t.kind == 2 || t.kind == 3) {
            String own = say(countOf(i), 0);
            return style[10] == 1 ? say(chapter(i), style[2]) + "-" + own : own;
        }
        int h = sectionOf(i);
        if (h == NONE) {
            return "?";
        }
        int level = items.get(h).a;
        List<Integer> row = rowOfHeading(h);
        List<String> parts = new ArrayList<>();
        for (int l = style[5 + level] == 1 ? 1 : level; l <= level; l++) {
            parts.add(say(row.get(l - 1), style[1 + l]));
        }
        return String.join(".", parts);
    }

    int about(int i, int what) {
        if (!has(i)) {
            return UNKNOWN;
        }
        Thing t = items.get(i);
        return switch (what) {
            case 0 -> t.name;
            case 1 -> t.kind;
            case 2 -> t.a;
            case 3 -> t.mark;
            case 4 -> t.pieces.size();
            case 5 -> sectionOf(i);
            case 6 -> said(i).length();
            case 7 -> countOf(i);
            default -> OUTSIDE;
        };
    }

    int number(int i, int k) {
        if (!has(i)) {
            return UNKNOWN;
        }
        if (k < 1 || k > 4) {
            return OUTSIDE;
        }
        List<Integer> row = row(i);
        return k <= row.size() ? row.get(k - 1) : NONE;
    }

    int means(int m) {
        for (int i = 0; i < items.size(); i++) {
            if (items.get(i).mark == m) {
                return i;
            }
        }
        return NONE;
    }

    int meantBy(Piece p) {
        return p.kind == 1 ? means(p.a) : NONE;
    }

    int told(int i, int k, int what) {
        if (!has(i) || k < 0 || k >= items.get(i).pieces.size()) {
            return UNKNOWN;
        }
        Piece p = items.get(i).pieces.get(k);
        Set s = what >= 4 ? setting() : null;
        int key = i * 20 + k;
        return switch (what) {
            case 0 -> p.kind;
            case 1 -> p.a;
            case 2 -> p.b;
            case 3 -> meantBy(p);
            case 4 -> p.kind == 0 ? p.a : s.letters.get(key);
            case 5 -> s.pieceLine.get(key).page;
            case 6 -> s.pieceLine.get(key).index;
            case 7 -> p.kind == 2 ? s.noteCount.get(key) : 0;
            default -> OUTSIDE;
        };
    }

    int called(int i) {
        if (!has(i)) {
            return UNKNOWN;
        }
        return (int) items.stream().flatMap(t -> t.pieces.stream()).filter(p -> meantBy(p) == i).count();
    }

    int count(int what) {
        return switch (what) {
            case 0 -> items.size();
            case 1 -> names;
            case 2 -> items.stream().mapToInt(t -> t.pieces.size()).sum();
            case 3 -> (int) items.stream().flatMap(t -> t.pieces.stream()).filter(p -> p.kind == 1).count();
            case 4 -> (int) items.stream().flatMap(t -> t.pieces.stream())
                    .filter(p -> p.kind == 1 && means(p.a) == NONE).count();
            case 5 -> marksTwice();
            case 6 -> lonelyOrLate(false);
            case 7 -> lonelyOrLate(true);
            case 8 -> fed.length();
            case 9 -> (int) items.stream().flatMap(t -> t.pieces.stream()).filter(p -> p.kind == 2).count();
            default -> OUTSIDE;
        };
    }

    int marksTwice() {
        Map<Integer, Integer> bearers = new HashMap<>();
        for (Thing t : items) {
            if (t.mark != NONE) {
                bearers.merge(t.mark, 1, Integer::sum);
            }
        }
        return (int) bearers.values().stream().filter(n -> n > 1).count();
    }

    int lonelyOrLate(boolean late) {
        int n = 0;
        for (int i = 0; i < items.size(); i++) {
            if (items.get(i).kind != 2 && items.get(i).kind != 3) {
                continue;
            }
            List<Integer> callers = new ArrayList<>();
            for (int j = 0; j < items.size(); j++) {
                for (Piece p : items.get(j).pieces) {
                    if (meantBy(p) == i) {
                        callers.add(j);
                    }
                }
            }
            if (late ? !callers.isEmpty() && Collections.min(callers) > i : callers.isEmpty()) {
                n++;
            }
        }
        return n;
    }

    // ---- setting

    static final class Line {
        int need, page, index;
    }

    static final class Set {
        int outcome, last, period, pages;
        List<Integer> used;
        final List<Integer> pagesOfRounds = new ArrayList<>();
        Map<Integer, Integer> letters;
        Map<Integer, Line> pieceLine = new HashMap<>();
        Map<Integer, Integer> noteCount = new HashMap<>();
        int[] page, lastPage, lines;
    }

    /** Kept between calls that only ask. */
    Set kept;

    Set setting() {
        if (kept == null) {
            kept = settle(style[0]);
        }
        return kept;
    }

    Set settle(int height) {
        Set s = new Set();
        List<Map<Integer, Integer>> rounds = new ArrayList<>();
        Map<Integer, Integer> letters = new HashMap<>();
        for (int i = 0; i < items.size(); i++) {
            for (int k = 0; k < items.get(i).pieces.size(); k++) {
                int kind = items.get(i).pieces.get(k).kind;
                if (kind != 0) {
                    letters.put(i * 20 + k, kind == 1 ? 2 : 1);
                }
            }
        }
        for (int k = 0;; k++) {
            rounds.add(letters);
            s.letters = letters;
            s.last = k;
            layOut(s, height);
            s.pagesOfRounds.add(s.pages);
            Map<Integer, Integer> said = sayAll(s);
            int like = rounds.indexOf(said);
            if (like == k) {
                s.outcome = 0;
                return s;
            }
            if (like >= 0) {
                s.outcome = 1;
                s.period = k + 1 - like;
                return s;
            }
            if (k == 11) {
                s.outcome = 2;
                return s;
            }
            letters = said;
        }
    }

    List<Line> linesOf(int i, Set s) {
        List<Line> lines = new ArrayList<>();
        Thing t = items.get(i);
        if (t.kind >= 4) {
            for (int n = 0; list(i, n) != NONE; n++) {
                Line line = new Line();
                line.need = 1;
                lines.add(line);
            }
            return lines;
        }
        String written = "";
        Line line = null;
        for (int k = 0; k < t.pieces.size(); k++) {
            Piece p = t.pieces.get(k);
            int key = i * 20 + k;
            String own = "m".repeat(p.kind == 0 ? p.a : s.letters.get(key));
            String longer = written + (p.kind == 2 ? "" : " ") + own;
            if (line == null || longer.length() > style[1]) {
                line = new Line();
                line.need = 1;
                line.index = lines.size();
                lines.add(line);
                written = own;
            } else {
                written = longer;
            }
            line.need += p.kind == 2 ? p.a : 0;
            s.pieceLine.put(key, line);
        }
        return lines;
    }

    /** The pages, as a row of what is used on each; those that wait, as a queue. */
    void layOut(Set s, int height) {
        int n = items.size();
        s.page = new int[n];
        s.lastPage = new int[n];
        s.lines = new int[n];
        List<Integer> used = new ArrayList<>(List.of(0));
        ArrayDeque<Integer> wait = new ArrayDeque<>();
        for (int i = 0; i < n; i++) {
            Thing t = items.get(i);
            if (t.kind == 0) {
                s.lines[i] = t.a == 1 ? 3 : t.a == 2 ? 2 : 1;
                if (t.a == 1 && style[12] == 1 && now(used) != 0) {
                    newPage(s, used, wait, height);
                }
                while (now(used) + s.lines[i] + 2 > height && now(used) != 0) {
                    newPage(s, used, wait, height);
                }
                s.page[i] = s.lastPage[i] = used.size();
                use(used, s.lines[i]);
            } else if (t.kind == 2 || t.kind == 3) {
                s.lines[i] = t.a;
                if (wait.isEmpty() && now(used) + t.a <= height) {
                    s.page[i] = s.lastPage[i] = used.size();
                    use(used, t.a);
                } else {
                    wait.add(i);
                }
            } else {
                List<Line> lines = linesOf(i, s);
                s.lines[i] = lines.size();
                s.page[i] = s.lastPage[i] = used.size();
                for (int l = 0; l < lines.size(); l++) {
                    int need = lines.get(l).need;
                    int held = l == 0 && lines.size() > 1 ? need + lines.get(1).need : need;
                    while (now(used) + held > height && now(used) != 0) {
                        newPage(s, used, wait, height);
                    }
                    use(used, need);
                    lines.get(l).page = used.size();
                }
                if (!lines.isEmpty()) {
                    s.page[i] = lines.get(0).page;
                    s.lastPage[i] = lines.get(lines.size() - 1).page;
                }
            }
        }
        while (!wait.isEmpty()) {
            newPage(s, used, wait, height);
        }
        s.used = used;
        s.pages = n == 0 ? 0 : used.size();
    }

    static int now(List<Integer> used) {
        return used.get(used.size() - 1);
    }

    static void use(List<Integer> used, int lines) {
        used.set(used.size() - 1, now(used) + lines);
    }

    void newPage(Set s, List<Integer> used, ArrayDeque<Integer> wait, int height) {
        used.add(0);
        while (!wait.isEmpty() && now(used) + items.get(wait.peek()).a <= height) {
            int i = wait.remove();
            s.page[i] = s.lastPage[i] = used.size();
            use(used, items.get(i).a);
        }
    }

    Map<Integer, Integer> sayAll(Set s) {
        Map<Integer, Integer> said = new HashMap<>();
        Map<Integer, Integer> notesOfPage = new HashMap<>();
        s.noteCount.clear();
        for (int i = 0; i < items.size(); i++) {
            for (int k = 0; k < items.get(i).pieces.size(); k++) {
                Piece p = items.get(i).pieces.get(k);
                int key = i * 20 + k;
                int page = s.pieceLine.get(key).page;
                if (p.kind == 2) {
                    int count = notesOfPage.merge(style[11] == 1 ? page : 0, 1, Integer::sum);
                    s.noteCount.put(key, count);
                    said.put(key, say(count, 0).length());
                } else if (p.kind == 1) {
                    said.put(key, sayCall(p, page, s).length());
                }
            }
        }
        return said;
    }

    String sayCall(Piece p, int page, Set s) {
        int place = means(p.a);
        if (place == NONE) {
            return "??";
        }
        if (p.b == 0) {
            return said(place);
        }
        if (p.b == 1) {
            return "p" + s.page[place];
        }
        return switch (Math.abs(s.page[place] - page)) {
            case 0 -> "here";
            case 1 -> "next page";
            default -> "there";
        };
    }

    int set(int what) {
        Set s = setting();
        return switch (what) {
            case 0 -> s.outcome;
            case 1 -> s.last;
            case 2 -> s.period;
            case 3 -> s.pages;
            case 4 -> now(s.used);
            default -> OUTSIDE;
        };
    }

    int page(int i, int what) {
        if (!has(i)) {
            return UNKNOWN;
        }
        Set s = setting();
        return switch (what) {
            case 0 -> s.page[i];
            case 1 -> s.lines[i];
            case 2 -> s.lastPage[i];
            default -> OUTSIDE;
        };
    }

    int used(int p) {
        Set s = setting();
        return p >= 1 && p <= s.pages ? s.used.get(p - 1) : UNKNOWN;
    }

    int round(int r) {
        Set s = setting();
        return r >= 0 && r <= s.last ? s.pagesOfRounds.get(r) : OUTSIDE;
    }

    int list(int i, int k) {
        if (!has(i)) {
            return UNKNOWN;
        }
        Thing list = items.get(i);
        if (list.kind < 4) {
            return NOT;
        }
        List<Integer> places = new ArrayList<>();
        for (int j = 0; j < items.size(); j++) {
            Thing t = items.get(j);
            if (list.kind == 4 && t.kind == 0 && t.a <= list.a || list.kind == 5 && t.kind == 2
                    || list.kind == 6 && t.kind == 3) {
                places.add(j);
            }
        }
        return k >= 0 && k < places.size() ? places.get(k) : NONE;
    }

    int best(int a, int b, int what) {
        if (a < 8 || b > 60 || b < a || b - a + 1 > 16 || what < 0 || what > 1) {
            return OUTSIDE;
        }
        int[] found = {NONE, NONE};
        for (int height = b; height >= a; height--) {
            Set s = settle(height);
            if (s.outcome == 0 && (found[1] == NONE || s.pages <= found[1])) {
                found[0] = height;
                found[1] = s.pages;
            }
        }
        return found[what];
    }

    // ---- calls

    Map<Integer, java.util.Set<Integer>> callsOfSections() {
        Map<Integer, java.util.Set<Integer>> calls = new HashMap<>();
        for (int i = 0; i < items.size(); i++) {
            calls.computeIfAbsent(sectionOf(i), s -> new HashSet<>());
            for (Piece p : items.get(i).pieces) {
                if (meantBy(p) != NONE) {
                    calls.get(sectionOf(i)).add(sectionOf(meantBy(p)));
                }
            }
        }
        return calls;
    }

    Map<Integer, Integer> farFrom(int section) {
        Map<Integer, java.util.Set<Integer>> calls = callsOfSections();
        Map<Integer, Integer> far = new HashMap<>();
        ArrayDeque<Integer> open = new ArrayDeque<>();
        far.put(section, 0);
        open.add(section);
        while (!open.isEmpty()) {
            int s = open.remove();
            for (int t : calls.get(s)) {
                if (far.putIfAbsent(t, far.get(s) + 1) == null) {
                    open.add(t);
                }
            }
        }
        return far;
    }

    int far(int i, int j) {
        if (!has(i) || !has(j)) {
            return UNKNOWN;
        }
        return farFrom(sectionOf(i)).getOrDefault(sectionOf(j), NONE);
    }

    int knotted(int i) {
        if (!has(i)) {
            return UNKNOWN;
        }
        int own = sectionOf(i);
        int n = 0;
        for (int s : farFrom(own).keySet()) {
            if (s != own && farFrom(s).containsKey(own)) {
                n++;
            }
        }
        return n;
    }

    // ---- versions

    static void copy(Model from, Model to) {
        to.items = new ArrayList<>();
        for (Thing t : from.items) {
            to.items.add(t.copy());
        }
        to.style = from.style.clone();
    }

    int keep(int v) {
        if (v < 0 || v > 2) {
            return UNKNOWN;
        }
        versions[v] = new Model();
        copy(this, versions[v]);
        return items.size();
    }

    int back(int v) {
        if (v < 0 || v > 2 || versions[v] == null) {
            return UNKNOWN;
        }
        copy(versions[v], this);
        return items.size();
    }

    int beside(int v, int what) {
        if (v < 0 || v > 2 || versions[v] == null) {
            return UNKNOWN;
        }
        if (what < 0 || what > 4) {
            return OUTSIDE;
        }
        Model then = versions[v];
        Map<Integer, Integer> placeNow = places();
        Map<Integer, Integer> placeThen = then.places();
        java.util.Set<Integer> both = new HashSet<>(placeNow.keySet());
        both.retainAll(placeThen.keySet());
        if (what == 0) {
            return items.size() - both.size() + then.items.size() - both.size();
        }
        Set now = setting();
        Set before = then.setting();
        int n = 0;
        for (int name : both) {
            int i = placeNow.get(name);
            int j = placeThen.get(name);
            if (what == 1 && !(row(i).equals(then.row(j)) && countOf(i) == then.countOf(j))) {
                n++;
            }
            if (what == 2 && now.page[i] != before.page[j]) {
                n++;
            }
            int common = Math.min(items.get(i).pieces.size(), then.items.get(j).pieces.size());
            for (int k = 0; k < common; k++) {
                Piece p = items.get(i).pieces.get(k);
                Piece q = then.items.get(j).pieces.get(k);
                if (p.kind != 1 || q.kind != 1) {
                    continue;
                }
                if (what == 3 && !now.letters.get(i * 20 + k).equals(before.letters.get(j * 20 + k))) {
                    n++;
                }
                if (what == 4 && nameMeant(p) != then.nameMeant(q)) {
                    n++;
                }
            }
        }
        return n;
    }

    Map<Integer, Integer> places() {
        Map<Integer, Integer> places = new HashMap<>();
        for (int i = 0; i < items.size(); i++) {
            places.put(items.get(i).name, i);
        }
        return places;
    }

    int nameMeant(Piece p) {
        int place = meantBy(p);
        return place == NONE ? NONE : items.get(place).name;
    }

    // ---- style

    int styleOf(int what) {
        return what >= 0 && what < 13 ? style[what] : OUTSIDE;
    }

    int feed(int n, long bytes) {
        if (n < 1 || n > 8) {
            return OUTSIDE;
        }
        if (fed.length() + n > 160) {
            return FULL;
        }
        StringBuilder more = new StringBuilder();
        for (int k = 0; k < n; k++) {
            more.insert(0, (char) (bytes >> 8 * k & 255));
        }
        fed += more;
        return fed.length();
    }

    /** The grammar as texts of token sorts; the fault is where no text of them goes on. */
    int read() {
        Matcher m = Pattern.compile(" *(?:([a-z]+)|([0-9]+)|([^ ]))", Pattern.DOTALL).matcher(fed);
        List<String> tokens = new ArrayList<>();
        List<Integer> starts = new ArrayList<>();
        while (m.find()) {
            int g = m.group(1) != null ? 1 : m.group(2) != null ? 2 : 3;
            tokens.add(m.group(g));
            starts.add(m.start(g));
        }
        tokens.add("");
        starts.add(fed.length());
        fed = "";
        int[] draft = {20, 40, 0, 0, 0, 0, 1, 1, 1, 1, 0, 0, 0};
        java.util.Set<String> told = new HashSet<>();
        List<String> clause = new ArrayList<>();
        int clauses = 0;
        fault = NONE;
        for (int t = 0; t < tokens.size(); t++) {
            String token = tokens.get(t);
            if (clause.isEmpty() && token.isEmpty()) {
                style = draft;
                return clauses;
            }
            int bad = faultOf(clause, token, told);
            if (bad != 0) {
                fault = starts.get(t);
                return -10 - bad;
            }
            clause.add(token);
            if (token.equals(";")) {
                apply(clause, draft);
                clauses++;
                clause.clear();
            }
        }
        throw new IllegalStateException("no end");
    }

    static int faultOf(List<String> clause, String token, java.util.Set<String> told) {
        boolean number = token.matches("[0-9]+");
        String sofar = String.join(" ", clause);
        if (sofar.isEmpty()) {
            if (!List.of("page", "level", "figures", "notes", "chapters").contains(token)) {
                return 1;
            }
            return token.equals("level") || told.add(token) ? 0 : 3;
        }
        if (sofar.equals("page")) {
            return number ? bounds(token, 8, 60) : 1;
        }
        if (sofar.matches("page [0-9]+")) {
            return token.equals("by") ? 0 : 1;
        }
        if (sofar.matches("page [0-9]+ by")) {
            return number ? bounds(token, 10, 90) : 1;
        }
        if (sofar.equals("level")) {
            if (!number) {
                return 1;
            }
            int bad = bounds(token, 1, 4);
            return bad != 0 ? bad : told.add("level" + Integer.parseInt(token)) ? 0 : 3;
        }
        if (sofar.matches("level [0-9]+")) {
            return token.matches("figures|letters|roman") ? 0 : 1;
        }
        if (sofar.matches("level [0-9]+ [a-z]+")) {
            return token.matches("long|;") ? 0 : 1;
        }
        if (sofar.matches("figures|notes")) {
            return token.matches("anew|on") ? 0 : 1;
        }
        if (sofar.equals("chapters")) {
            return token.matches("new|on") ? 0 : 1;
        }
        return token.equals(";") ? 0 : 1;
    }

    static int bounds(String number, int least, int most) {
        if (number.length() > 2) {
            return 2;
        }
        int n = Integer.parseInt(number);
        return n < least || n > most ? 2 : 0;
    }

    static void apply(List<String> clause, int[] draft) {
        String second = clause.get(1);
        switch (clause.get(0)) {
            case "page" -> {
                draft[0] = Integer.parseInt(second);
                draft[1] = Integer.parseInt(clause.get(3));
            }
            case "level" -> {
                int level = Integer.parseInt(second);
                draft[1 + level] = List.of("figures", "letters", "roman").indexOf(clause.get(2));
                draft[5 + level] = clause.get(3).equals("long") ? 1 : 0;
            }
            case "figures" -> draft[10] = second.equals("anew") ? 1 : 0;
            case "notes" -> draft[11] = second.equals("anew") ? 1 : 0;
            default -> draft[12] = second.equals("new") ? 1 : 0;
        }
    }
}
