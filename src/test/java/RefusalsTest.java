import java.util.ArrayList;
import java.util.List;
import java.util.function.Supplier;
import java.util.function.ToIntFunction;

/**
 * "REFUSALS, of several the first in this order: UNKNOWN, OUTSIDE, NOT, FULL. What is refused changes nothing.":
 * each refusal of each call on a text that is built anew, which must answer afterwards as one without that call.
 */
public final class RefusalsTest {
    private static final int NONE = Desk.NONE, UNKNOWN = Desk.UNKNOWN, OUTSIDE = Desk.OUTSIDE, NOT = Desk.NOT,
            FULL = Desk.FULL;
    private static final int HEADING = Desk.HEADING, PARAGRAPH = Desk.PARAGRAPH, FIGURE = Desk.FIGURE,
            TABLE = Desk.TABLE, HEADINGS = Desk.HEADINGS, TABLES = Desk.TABLES;
    private static final int WORD = Desk.WORD, CALL = Desk.CALL, NOTE = Desk.NOTE;
    private static final int LEAST = Desk.LEAST, MOST = Desk.MOST;

    /** Places in the text that rich() builds. */
    private static final int CHAPTER = 1, CALLER = 2, LIST = 7, EMPTY = 8, ITEMS = 9;
    private static final int[] NO_PLACES = {LEAST, -1001, -1, ITEMS, 60, MOST};

    public static void main(String[] args) throws IllegalAccessException {
        Desk.runAll(RefusalsTest.class);
    }

    // ---- texts

    /** All kinds of items and pieces, a version that differs, a style, a fault, and bytes that are not read yet. */
    private static NumberedText rich() {
        NumberedText x = new NumberedText();
        Desk.read(x, "page 9 by 15;level 2 roman;notes anew;chapters new;");
        Desk.add(x, FIGURE, 2);
        Desk.add(x, HEADING, 1);
        Desk.addPieces(x, WORD, 9, 0, CALL, 1, Desk.NUMBER, CALL, 2, Desk.PAGE, CALL, 2, Desk.PLACE, NOTE, 3, 0, CALL, 9, 0);
        Desk.add(x, TABLE, 8);
        Desk.add(x, HEADING, 2);
        x.keep(1);
        Desk.addPieces(x, NOTE, 1, 0, CALL, 2, Desk.PLACE, CALL, 1, Desk.PLACE);
        Desk.add(x, FIGURE, 4);
        Desk.add(x, HEADINGS, 2);
        Desk.add(x, PARAGRAPH, 0);
        x.mark(1, 2);
        x.mark(6, 1);
        x.mark(3, 1);
        x.keep(0);
        x.drop(5);
        Desk.read(x, "page 9 by 15;notes x");
        Desk.feed(x, "notes o");
        x.set(0);
        return x;
    }

    private static NumberedText nothing() {
        return new NumberedText();
    }

    private static NumberedText sixtyItems() {
        NumberedText x = new NumberedText();
        for (int i = 0; i < 60; i++) {
            x.put(i, i % 7, 1);
        }
        x.mark(3, 5);
        x.set(0);
        return x;
    }

    private static NumberedText allNames() {
        NumberedText x = new NumberedText();
        for (int n = 0; n < 197; n++) {
            x.put(0, PARAGRAPH, 0);
            x.cut(0);
        }
        x.put(0, FIGURE, 1);
        x.put(1, HEADING, 1);
        x.put(2, PARAGRAPH, 0);
        return x;
    }

    private static NumberedText twentyPieces() {
        NumberedText x = new NumberedText();
        x.put(0, PARAGRAPH, 0);
        x.put(1, FIGURE, 3);
        for (int k = 0; k < 20; k++) {
            x.piece(0, k % 3, 1 + k % 5, 0);
        }
        x.mark(1, 2);
        return x;
    }

    private static NumberedText bytes(int n) {
        NumberedText x = new NumberedText();
        Desk.feed(x, "figures anew;" + " ".repeat(n - 13));
        return x;
    }

    // ---- all that can be asked, in parts that stay under 512 calls with the building of the text

    private static List<Integer> allOfTheText(NumberedText x) {
        List<Integer> all = new ArrayList<>();
        for (int what = 0; what <= 9; what++) {
            all.add(x.count(what));
        }
        for (int what = 0; what <= 12; what++) {
            all.add(x.style(what));
        }
        all.add(x.fault());
        int items = x.count(0);
        for (int i = 0; i < items; i++) {
            all.add(x.about(i, 0));
            all.add(x.about(i, 3));
            all.add(x.about(i, 4));
            int pieces = x.about(i, 4);
            for (int k = 0; k < pieces; k++) {
                for (int what = 0; what <= 2; what++) {
                    all.add(x.told(i, k, what));
                }
            }
        }
        return all;
    }

    private static List<Integer> allNumbersAndCalls(NumberedText x) {
        List<Integer> all = new ArrayList<>();
        int items = Math.min(20, x.count(0));
        for (int i = 0; i < items; i++) {
            for (int what = 5; what <= 7; what++) {
                all.add(x.about(i, what));
            }
            all.add(x.number(i, 1));
            all.add(x.number(i, 2));
            all.add(x.called(i));
            all.add(x.knotted(i));
            all.add(x.far(i, 0));
            all.add(x.list(i, 0));
        }
        for (int m = 0; m < 10; m++) {
            all.add(x.means(m));
        }
        return all;
    }

    private static List<Integer> allThatIsSet(NumberedText x) {
        List<Integer> all = new ArrayList<>();
        for (int what = 0; what <= 4; what++) {
            all.add(x.set(what));
        }
        int pages = Math.min(9, x.set(3));
        for (int p = 1; p <= pages; p++) {
            all.add(x.used(p));
        }
        for (int r = 0; r <= 11; r++) {
            all.add(x.round(r));
        }
        int items = Math.min(20, x.count(0));
        for (int i = 0; i < items; i++) {
            for (int what = 0; what <= 2; what++) {
                all.add(x.page(i, what));
            }
            int pieces = x.about(i, 4);
            for (int k = 0; k < pieces; k++) {
                for (int what = 4; what <= 7; what++) {
                    all.add(x.told(i, k, what));
                }
            }
        }
        return all;
    }

    /** What comes of it: the versions, the next name, what the bytes make of the style. */
    private static List<Integer> allThatComes(NumberedText x) {
        List<Integer> all = new ArrayList<>();
        for (int v = 0; v <= 2; v++) {
            for (int what = 0; what <= 4; what++) {
                all.add(x.beside(v, what));
            }
        }
        all.add(x.put(0, PARAGRAPH, 0));
        all.add(x.feed(1, 'n'));
        all.add(x.feed(1, ';'));
        all.add(x.read());
        all.add(x.fault());
        for (int what = 0; what <= 12; what++) {
            all.add(x.style(what));
        }
        for (int v = 0; v <= 2; v++) {
            all.add(x.back(v));
            all.add(x.count(2));
            all.add(x.count(3));
            all.add(x.style(0));
            all.add(x.about(0, 0));
            all.add(x.about(5, 4));
        }
        all.add(x.put(0, PARAGRAPH, 0));
        return all;
    }

    private static List<Integer> part(int n, NumberedText x) {
        switch (n) {
            case 0: return allOfTheText(x);
            case 1: return allNumbersAndCalls(x);
            case 2: return allThatIsSet(x);
            default: return allThatComes(x);
        }
    }

    private static void refused(String call, int want, Supplier<NumberedText> text, ToIntFunction<NumberedText> made) {
        for (int n = 0; n < 4; n++) {
            NumberedText x = text.get();
            Desk.due(call, made.applyAsInt(x), want);
            Desk.due("what is as it was behind " + call + ", part " + n, part(n, x).equals(part(n, text.get())) ? 1 : 0, 1);
        }
    }

    private static void refused(String call, int want, ToIntFunction<NumberedText> made) {
        refused(call, want, RefusalsTest::rich, made);
    }

    // ---- items

    static void put() {
        Desk.sentence("put: OUTSIDE, FULL (60 ITEMS, 200 NAMES)");
        for (int i : new int[] {LEAST, -1, ITEMS + 1, 60, MOST}) {
            refused("put(" + i + ", 1, 0)", OUTSIDE, x -> x.put(i, PARAGRAPH, 0));
        }
        for (int kind : new int[] {LEAST, -1, 7, MOST}) {
            refused("put(0, " + kind + ", 1)", OUTSIDE, x -> x.put(0, kind, 1));
        }
        for (int kind : new int[] {HEADING, HEADINGS, FIGURE, TABLE}) {
            int most = kind == HEADING || kind == HEADINGS ? 4 : 8;
            for (int a : new int[] {LEAST, -1, 0, most + 1, MOST}) {
                refused("put(0, " + kind + ", " + a + ")", OUTSIDE, x -> x.put(0, kind, a));
            }
        }
        refused("put(1, 1, 0) of nothing", OUTSIDE, RefusalsTest::nothing, x -> x.put(1, PARAGRAPH, 0));
        for (int kind = 0; kind <= 6; kind++) {
            int each = kind;
            refused("a 61st of kind " + kind, FULL, RefusalsTest::sixtyItems, x -> x.put(30, each, 1));
            refused("a 201st name of kind " + kind, FULL, RefusalsTest::allNames, x -> x.put(1, each, 1));
        }
        refused("a 61st at the end", FULL, RefusalsTest::sixtyItems, x -> x.put(60, PARAGRAPH, 0));
    }

    static void putInOrder() {
        Desk.sentence("put: OUTSIDE ahead of FULL");
        List<Supplier<NumberedText>> texts = List.of(RefusalsTest::sixtyItems, RefusalsTest::allNames);
        for (Supplier<NumberedText> text : texts) {
            refused("place 61", OUTSIDE, text, x -> x.put(61, PARAGRAPH, 0));
            refused("place -1", OUTSIDE, text, x -> x.put(-1, PARAGRAPH, 0));
            refused("kind 7", OUTSIDE, text, x -> x.put(0, 7, 1));
            refused("level 5", OUTSIDE, text, x -> x.put(0, HEADING, 5));
            refused("9 lines", OUTSIDE, text, x -> x.put(0, TABLE, 9));
        }
    }

    static void cut() {
        Desk.sentence("cut: UNKNOWN");
        for (int i : NO_PLACES) {
            refused("cut(" + i + ")", UNKNOWN, x -> x.cut(i));
        }
        refused("cut(0) of nothing", UNKNOWN, RefusalsTest::nothing, x -> x.cut(0));
        refused("cut(60) of 60", UNKNOWN, RefusalsTest::sixtyItems, x -> x.cut(60));
    }

    static void move() {
        Desk.sentence("move: UNKNOWN (both)");
        for (int i : NO_PLACES) {
            refused("move(" + i + ", 0)", UNKNOWN, x -> x.move(i, 0));
            refused("move(0, " + i + ")", UNKNOWN, x -> x.move(0, i));
            refused("move(" + i + ", " + i + ")", UNKNOWN, x -> x.move(i, i));
        }
        refused("move(0, 0) of nothing", UNKNOWN, RefusalsTest::nothing, x -> x.move(0, 0));
        refused("move(59, 60) of 60", UNKNOWN, RefusalsTest::sixtyItems, x -> x.move(59, 60));
        refused("move(60, 59) of 60", UNKNOWN, RefusalsTest::sixtyItems, x -> x.move(60, 59));
    }

    static void mark() {
        Desk.sentence("mark: UNKNOWN, OUTSIDE");
        for (int i : NO_PLACES) {
            refused("mark(" + i + ", 5)", UNKNOWN, x -> x.mark(i, 5));
            refused("mark(" + i + ", NONE)", UNKNOWN, x -> x.mark(i, NONE));
            refused("UNKNOWN ahead of OUTSIDE", UNKNOWN, x -> x.mark(i, 100));
        }
        for (int m : new int[] {LEAST, -1001, -2, 100, MOST}) {
            refused("mark(1, " + m + ")", OUTSIDE, x -> x.mark(CHAPTER, m));
            refused("mark(8, " + m + ")", OUTSIDE, x -> x.mark(EMPTY, m));
        }
    }

    static void piece() {
        Desk.sentence("piece: UNKNOWN, OUTSIDE, NOT: it is no PARAGRAPH; FULL");
        for (int i : NO_PLACES) {
            refused("piece at " + i, UNKNOWN, x -> x.piece(i, WORD, 1, 0));
        }
        int[][] outside = {{-1, 1, 0}, {3, 1, 0}, {LEAST, 1, 0}, {MOST, 1, 0}, {WORD, 0, 0}, {WORD, 21, 0}, {WORD, -1, 0},
            {CALL, -1, 0}, {CALL, 100, 0}, {CALL, 1, -1}, {CALL, 1, 3}, {CALL, LEAST, 0}, {CALL, 0, MOST}, {NOTE, 0, 0},
            {NOTE, 6, 0}, {NOTE, MOST, 0}};
        for (int[] o : outside) {
            String piece = o[0] + ", " + o[1] + ", " + o[2];
            refused("piece " + piece, OUTSIDE, x -> x.piece(CALLER, o[0], o[1], o[2]));
            refused("UNKNOWN ahead of OUTSIDE: " + piece, UNKNOWN, x -> x.piece(ITEMS, o[0], o[1], o[2]));
            refused("OUTSIDE ahead of NOT: " + piece, OUTSIDE, x -> x.piece(CHAPTER, o[0], o[1], o[2]));
            refused("OUTSIDE ahead of FULL: " + piece, OUTSIDE, RefusalsTest::twentyPieces,
                    x -> x.piece(0, o[0], o[1], o[2]));
        }
        for (int kind = 0; kind <= 2; kind++) {
            int each = kind;
            for (int i : new int[] {0, CHAPTER, 3, LIST}) {
                refused("piece of " + i, NOT, x -> x.piece(i, each, 1, 0));
            }
            refused("a 21st piece", FULL, RefusalsTest::twentyPieces, x -> x.piece(0, each, 1, 0));
            refused("NOT, where another one is full", NOT, RefusalsTest::twentyPieces, x -> x.piece(1, each, 1, 0));
        }
        for (int i = 0; i < 7; i++) {
            int place = i;
            if (i != PARAGRAPH) {
                refused("piece of kind " + i, NOT, RefusalsTest::sixtyItems, x -> x.piece(place, WORD, 1, 0));
            }
        }
    }

    static void drop() {
        Desk.sentence("drop: UNKNOWN, NOT: it is none, or has none");
        for (int i : NO_PLACES) {
            refused("drop(" + i + ")", UNKNOWN, x -> x.drop(i));
        }
        for (int i : new int[] {0, CHAPTER, 3, 4, 6, LIST, EMPTY}) {
            refused("drop(" + i + ")", NOT, x -> x.drop(i));
        }
        for (int i = 0; i < 7; i++) {
            int place = i;
            refused("drop of kind " + i, NOT, RefusalsTest::sixtyItems, x -> x.drop(place));
        }
    }

    static void aboutAndNumber() {
        Desk.sentence("about, number: UNKNOWN, OUTSIDE");
        for (int i : NO_PLACES) {
            refused("about(" + i + ", 0)", UNKNOWN, x -> x.about(i, 0));
            refused("about(" + i + ", 8)", UNKNOWN, x -> x.about(i, 8));
            refused("number(" + i + ", 1)", UNKNOWN, x -> x.number(i, 1));
            refused("number(" + i + ", 0)", UNKNOWN, x -> x.number(i, 0));
        }
        for (int what : new int[] {LEAST, -1, 8, MOST}) {
            refused("about(0, " + what + ")", OUTSIDE, x -> x.about(0, what));
        }
        for (int k : new int[] {LEAST, -1, 0, 5, MOST}) {
            refused("number(0, " + k + ")", OUTSIDE, x -> x.number(0, k));
        }
    }

    static void told() {
        Desk.sentence("told: UNKNOWN, OUTSIDE");
        for (int i : NO_PLACES) {
            refused("told(" + i + ", 0, 0)", UNKNOWN, x -> x.told(i, 0, 0));
            refused("told(" + i + ", 0, 8)", UNKNOWN, x -> x.told(i, 0, 8));
        }
        for (int k : new int[] {LEAST, -1, 6, 20, MOST}) {
            refused("told(2, " + k + ", 0)", UNKNOWN, x -> x.told(CALLER, k, 0));
            refused("told(2, " + k + ", -1)", UNKNOWN, x -> x.told(CALLER, k, -1));
        }
        for (int i : new int[] {0, CHAPTER, LIST, EMPTY}) {
            refused("told(" + i + ", 0, 0)", UNKNOWN, x -> x.told(i, 0, 0));
        }
        for (int what : new int[] {LEAST, -1, 8, MOST}) {
            refused("told(2, 0, " + what + ")", OUTSIDE, x -> x.told(CALLER, 0, what));
        }
        refused("a 21st piece", UNKNOWN, RefusalsTest::twentyPieces, x -> x.told(0, 20, 0));
        refused("a piece that was dropped", UNKNOWN, x -> x.told(5, 2, 0));
    }

    static void count() {
        Desk.sentence("count: OUTSIDE");
        for (int what : new int[] {LEAST, -1, 10, MOST}) {
            refused("count(" + what + ")", OUTSIDE, x -> x.count(what));
        }
    }

    // ---- setting

    static void setAndRound() {
        Desk.sentence("set, round: OUTSIDE");
        for (int what : new int[] {LEAST, -1, 5, MOST}) {
            refused("set(" + what + ")", OUTSIDE, x -> x.set(what));
        }
        for (int r : new int[] {LEAST, -1, 12, MOST}) {
            refused("round(" + r + ")", OUTSIDE, x -> x.round(r));
        }
        refused("a round behind the last one", OUTSIDE, x -> x.round(x.set(1) + 1));
    }

    static void pageAndUsed() {
        Desk.sentence("page: UNKNOWN, OUTSIDE; used: UNKNOWN");
        for (int i : NO_PLACES) {
            refused("page(" + i + ", 0)", UNKNOWN, x -> x.page(i, 0));
            refused("page(" + i + ", 3)", UNKNOWN, x -> x.page(i, 3));
        }
        for (int what : new int[] {LEAST, -1, 3, MOST}) {
            refused("page(0, " + what + ")", OUTSIDE, x -> x.page(0, what));
        }
        for (int p : new int[] {LEAST, -1, 0, MOST}) {
            refused("used(" + p + ")", UNKNOWN, x -> x.used(p));
        }
        refused("a page behind the last one", UNKNOWN, x -> x.used(x.set(3) + 1));
        refused("used(1) of nothing", UNKNOWN, RefusalsTest::nothing, x -> x.used(1));
    }

    static void list() {
        Desk.sentence("list: UNKNOWN, NOT: it is no LIST");
        for (int i : NO_PLACES) {
            refused("list(" + i + ", 0)", UNKNOWN, x -> x.list(i, 0));
        }
        for (int i = 0; i < 4; i++) {
            int place = i;
            refused("list of kind " + i, NOT, RefusalsTest::sixtyItems, x -> x.list(place, 0));
        }
    }

    static void best() {
        Desk.sentence("best: OUTSIDE (b below a; more than 16 of them)");
        int[][] outside = {{7, 8, 0}, {60, 61, 0}, {9, 8, 0}, {8, 24, 0}, {44, 60, 1}, {8, 8, -1}, {8, 8, 2},
            {LEAST, MOST, 0}, {MOST, LEAST, 1}, {8, MOST, 0}, {LEAST, 60, 1}};
        for (int[] o : outside) {
            refused("best(" + o[0] + ", " + o[1] + ", " + o[2] + ")", OUTSIDE, x -> x.best(o[0], o[1], o[2]));
        }
    }

    // ---- calls

    static void meansAndCalled() {
        Desk.sentence("means: OUTSIDE; called, far, knotted: UNKNOWN");
        for (int m : new int[] {LEAST, -1, 100, MOST}) {
            refused("means(" + m + ")", OUTSIDE, x -> x.means(m));
        }
        for (int i : NO_PLACES) {
            refused("called(" + i + ")", UNKNOWN, x -> x.called(i));
            refused("knotted(" + i + ")", UNKNOWN, x -> x.knotted(i));
            refused("far(" + i + ", 0)", UNKNOWN, x -> x.far(i, 0));
            refused("far(0, " + i + ")", UNKNOWN, x -> x.far(0, i));
        }
    }

    // ---- versions

    static void versions() {
        Desk.sentence("keep, back, beside: UNKNOWN; beside: OUTSIDE");
        for (int v : new int[] {LEAST, -1, 3, MOST}) {
            refused("keep(" + v + ")", UNKNOWN, x -> x.keep(v));
            refused("back(" + v + ")", UNKNOWN, x -> x.back(v));
            refused("beside(" + v + ", 0)", UNKNOWN, x -> x.beside(v, 0));
            refused("UNKNOWN ahead of OUTSIDE", UNKNOWN, x -> x.beside(v, 5));
        }
        refused("back(2), not kept", UNKNOWN, x -> x.back(2));
        refused("beside(2, 0), not kept", UNKNOWN, x -> x.beside(2, 0));
        refused("beside(2, 5), not kept", UNKNOWN, x -> x.beside(2, 5));
        for (int what : new int[] {LEAST, -1, 5, MOST}) {
            refused("beside(0, " + what + ")", OUTSIDE, x -> x.beside(0, what));
        }
    }

    // ---- style

    static void feedAndStyle() {
        Desk.sentence("feed: OUTSIDE, FULL; style: OUTSIDE");
        for (int n : new int[] {LEAST, -1, 0, 9, MOST}) {
            refused("feed(" + n + ")", OUTSIDE, x -> x.feed(n, 0x3b3b3b3b3b3b3b3bL));
            refused("OUTSIDE ahead of FULL", OUTSIDE, () -> bytes(160), x -> x.feed(n, 0x3b3b3b3b3b3b3b3bL));
        }
        for (int n = 1; n <= 8; n++) {
            int each = n;
            refused("feed(" + n + ") behind 160", FULL, () -> bytes(160), x -> x.feed(each, 0x3b3b3b3b3b3b3b3bL));
            refused("feed(" + n + "), one too many", FULL, () -> bytes(161 - each), x -> x.feed(each, 0x3b3b3b3b3b3b3b3bL));
        }
        for (int what : new int[] {LEAST, -1, 13, MOST}) {
            refused("style(" + what + ")", OUTSIDE, x -> x.style(what));
        }
    }

    // ---- calls that only ask

    private static void onlyAsked(String call, ToIntFunction<NumberedText> made) {
        for (int n = 0; n < 4; n++) {
            NumberedText x = rich();
            int answer = made.applyAsInt(x);
            Desk.due(call + " is no refusal", answer > UNKNOWN ? 1 : 0, 1);
            Desk.due("what is as it was behind " + call + ", part " + n, part(n, x).equals(part(n, rich())) ? 1 : 0, 1);
            NumberedText y = rich();
            part(n, y);
            Desk.due(call + " asked later", n == 3 ? answer : made.applyAsInt(y), answer);
        }
    }

    static void askingChangesNothing() {
        Desk.sentence("Nothing is promised beyond the answers and state changes described (asking changes nothing)");
        onlyAsked("best", x -> x.best(8, 23, 0));
        onlyAsked("best", x -> x.best(45, 60, 1));
        for (int w = 0; w <= 4; w++) {
            int what = w;
            onlyAsked("beside(0)", x -> x.beside(0, what));
            onlyAsked("beside(1)", x -> x.beside(1, what));
            onlyAsked("set", x -> x.set(what));
        }
        onlyAsked("about", x -> x.about(5, 6));
        onlyAsked("number", x -> x.number(5, 2));
        onlyAsked("told", x -> x.told(CALLER, 2, 4));
        onlyAsked("page", x -> x.page(5, 0));
        onlyAsked("used", x -> x.used(1));
        onlyAsked("round", x -> x.round(0));
        onlyAsked("list", x -> x.list(LIST, 1));
        onlyAsked("means", x -> x.means(1));
        onlyAsked("called", x -> x.called(3));
        onlyAsked("far", x -> x.far(2, 0));
        onlyAsked("knotted", x -> x.knotted(2));
        onlyAsked("fault", x -> x.fault());
        onlyAsked("style", x -> x.style(0));
        onlyAsked("count", x -> x.count(4));
    }

    /** The parts must tell texts apart that differ in one thing, or they would prove nothing. */
    static void partsTellTextsApart() {
        Desk.sentence("What is refused changes nothing (what each change would show)");
        List<ToIntFunction<NumberedText>> changes = List.of(x -> x.put(0, TABLES, 0), x -> x.cut(EMPTY), x -> x.move(0, 1),
                x -> x.mark(0, 50), x -> x.mark(6, NONE), x -> x.piece(EMPTY, WORD, 1, 0), x -> x.drop(CALLER), x -> x.keep(2),
                x -> x.keep(1), x -> x.back(0), x -> x.back(1), x -> x.feed(1, ' '), x -> x.read());
        for (int c = 0; c < changes.size(); c++) {
            int differ = 0;
            for (int n = 0; n < 4; n++) {
                NumberedText x = rich();
                changes.get(c).applyAsInt(x);
                differ += part(n, x).equals(part(n, rich())) ? 0 : 1;
            }
            Desk.due("change " + c + " shows", differ > 0 ? 1 : 0, 1);
        }
    }
}
