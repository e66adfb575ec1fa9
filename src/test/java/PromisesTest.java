import java.nio.charset.StandardCharsets;

/** For each promise of the document: ordinary inputs, the edges that it names, and wrong inputs. */
public final class PromisesTest {
    private static final int NONE = -1, UNKNOWN = -1001, OUTSIDE = -1002, NOT = -1003, FULL = -1004;
    private static final int HEADING = 0, PARAGRAPH = 1, FIGURE = 2, TABLE = 3, HEADINGS = 4, FIGURES = 5, TABLES = 6;
    private static final int WORD = 0, CALL = 1, NOTE = 2;
    private static final int NUMBER = 0, PAGE = 1, PLACE = 2;

    private static int promise = 0;
    private static int asked = 0;
    private static int wrong = 0;

    public static void main(String[] args) {
        promise1NewObject();
        promise2Put();
        promise3Cut();
        promise4Move();
        promise5Mark();
        promise6Piece();
        promise7Drop();
        promise8About();
        promise8Forms();
        promise9Number();
        promise10Told();
        promise11Count();
        promise12Set();
        promise13Page();
        promise13Floats();
        promise13Notes();
        promise14Used();
        promise15Round();
        promise16List();
        promise17Best();
        promise18Means();
        promise19Called();
        promise20Far();
        promise21Knotted();
        promise22Keep();
        promise23Back();
        promise24Beside();
        promise25Feed();
        promise26Read();
        promise27Fault();
        promise28Style();
        System.out.println(asked + " answers, " + wrong + " of them not as due");
        if (wrong != 0) {
            System.exit(1);
        }
    }

    private static void due(String call, int got, int want) {
        asked++;
        if (got != want) {
            wrong++;
            System.out.println("promise " + promise + ": " + call + " answered " + got + ", due is " + want);
        }
    }

    // ---- helpers

    private static void feedAll(NumberedText x, String style) {
        byte[] bytes = style.getBytes(StandardCharsets.ISO_8859_1);
        for (int from = 0; from < bytes.length; from += 8) {
            int n = Math.min(8, bytes.length - from);
            long eight = 0;
            for (int k = 0; k < n; k++) {
                eight = eight << 8 | bytes[from + k] & 255;
            }
            due("feed " + style, x.feed(n, eight), from + n);
        }
    }

    private static int readStyle(NumberedText x, String style) {
        feedAll(x, style);
        return x.read();
    }

    private static NumberedText withStyle(String style) {
        NumberedText x = new NumberedText();
        int clauses = (int) style.chars().filter(c -> c == ';').count();
        due("read " + style, readStyle(x, style), clauses);
        return x;
    }

    /** Puts an item at the end: its place. */
    private static int add(NumberedText x, int kind, int a) {
        int place = x.count(0);
        x.put(place, kind, a);
        return place;
    }

    /** A paragraph of n lines of the full width (20 at most). */
    private static int addLines(NumberedText x, int n) {
        int place = add(x, PARAGRAPH, 0);
        for (int k = 0; k < n; k++) {
            x.piece(place, WORD, 20, 0);
        }
        return place;
    }

    private static int addCall(NumberedText x, int mark, int way) {
        int place = add(x, PARAGRAPH, 0);
        x.piece(place, CALL, mark, way);
        return place;
    }

    private static void dueUntouched(NumberedText x, int items, int pieces) {
        due("count(0) after a refusal", x.count(0), items);
        due("count(2) after a refusal", x.count(2), pieces);
    }

    // ---- items

    private static void promise1NewObject() {
        promise = 1;
        NumberedText x = new NumberedText();
        for (int what = 0; what <= 9; what++) {
            due("count(" + what + ")", x.count(what), 0);
        }
        int[] first = {20, 40, 0, 0, 0, 0, 1, 1, 1, 1, 0, 0, 0};
        for (int what = 0; what < first.length; what++) {
            due("style(" + what + ")", x.style(what), first[what]);
        }
        due("fault()", x.fault(), NONE);
        due("cut(0)", x.cut(0), UNKNOWN);
        for (int v = 0; v < 3; v++) {
            due("back", x.back(v), UNKNOWN);
        }
    }

    private static void promise2Put() {
        promise = 2;
        NumberedText x = new NumberedText();
        due("put ahead", x.put(-1, PARAGRAPH, 0), OUTSIDE);
        due("put behind the end", x.put(1, PARAGRAPH, 0), OUTSIDE);
        due("kind -1", x.put(0, -1, 1), OUTSIDE);
        due("kind 7", x.put(0, 7, 1), OUTSIDE);
        int[] levelled = {HEADING, HEADINGS};
        for (int kind : levelled) {
            due("level 0", x.put(0, kind, 0), OUTSIDE);
            due("level 5", x.put(0, kind, 5), OUTSIDE);
        }
        int[] lined = {FIGURE, TABLE};
        for (int kind : lined) {
            due("0 lines", x.put(0, kind, 0), OUTSIDE);
            due("9 lines", x.put(0, kind, 9), OUTSIDE);
        }
        due("names", x.count(1), 0);
        due("heading 4", x.put(0, HEADING, 4), 0);
        due("figure 8", x.put(0, FIGURE, 8), 1);
        due("table 8", x.put(2, TABLE, 8), 2);
        due("list 4", x.put(1, HEADINGS, 4), 3);
        due("a of a paragraph is not looked at", x.put(0, PARAGRAPH, Integer.MIN_VALUE), 4);
        due("a of a list is not looked at", x.put(0, FIGURES, 99), 5);
        due("a of a list is not looked at", x.put(0, TABLES, -99), 6);
        int[] names = {6, 5, 4, 1, 3, 0, 2};
        for (int i = 0; i < names.length; i++) {
            due("name at " + i, x.about(i, 0), names[i]);
        }
        for (int n = 7; n < 60; n++) {
            due("put", x.put(n, PARAGRAPH, 0), n);
        }
        due("61st item", x.put(60, PARAGRAPH, 0), FULL);
        due("OUTSIDE goes ahead of FULL", x.put(61, PARAGRAPH, 0), OUTSIDE);
        due("OUTSIDE goes ahead of FULL", x.put(0, HEADING, 0), OUTSIDE);
        dueUntouched(x, 60, 0);
        for (int n = 60; n < 200; n++) {
            x.cut(30);
            due("put", x.put(30, PARAGRAPH, 0), n);
        }
        x.cut(0);
        due("201st name", x.put(0, PARAGRAPH, 0), FULL);
        due("items", x.count(0), 59);
        due("names", x.count(1), 200);
    }

    private static void promise3Cut() {
        promise = 3;
        NumberedText x = new NumberedText();
        for (int n = 0; n < 4; n++) {
            add(x, PARAGRAPH, 0);
        }
        x.mark(1, 7);
        x.piece(1, WORD, 3, 0);
        due("cut(4)", x.cut(4), UNKNOWN);
        due("cut(-1)", x.cut(-1), UNKNOWN);
        due("cut(1)", x.cut(1), 1);
        due("name", x.about(1, 0), 2);
        due("pieces", x.count(2), 0);
        due("mark", x.means(7), NONE);
        due("a new one takes no old name", x.put(1, PARAGRAPH, 0), 4);
        due("nor an old mark", x.about(1, 3), NONE);
        due("nor old pieces", x.about(1, 4), 0);
        due("cut last", x.cut(3), 3);
        due("items", x.count(0), 3);
    }

    private static void promise4Move() {
        promise = 4;
        NumberedText x = new NumberedText();
        for (int n = 0; n < 5; n++) {
            add(x, PARAGRAPH, 0);
        }
        due("move(5, 0)", x.move(5, 0), UNKNOWN);
        due("move(0, 5)", x.move(0, 5), UNKNOWN);
        due("move(-1, 0)", x.move(-1, 0), UNKNOWN);
        due("move(0, -1)", x.move(0, -1), UNKNOWN);
        due("move(1, 3)", x.move(1, 3), 1);
        dueNames(x, 0, 2, 3, 1, 4);
        due("move(4, 0)", x.move(4, 0), 1);
        dueNames(x, 4, 0, 2, 3, 1);
        due("move(2, 2)", x.move(2, 2), 1);
        dueNames(x, 4, 0, 2, 3, 1);
        x.piece(0, WORD, 9, 0);
        x.mark(0, 5);
        x.move(0, 4);
        due("pieces go along", x.told(4, 0, 1), 9);
        due("the mark goes along", x.means(5), 4);
    }

    private static void dueNames(NumberedText x, int... names) {
        for (int i = 0; i < names.length; i++) {
            due("name at " + i, x.about(i, 0), names[i]);
        }
    }

    private static void promise5Mark() {
        promise = 5;
        NumberedText x = new NumberedText();
        due("mark(0, 100)", x.mark(0, 100), UNKNOWN);
        add(x, PARAGRAPH, 0);
        due("mark(-1, 0)", x.mark(-1, 0), UNKNOWN);
        due("mark(0, 0)", x.mark(0, 0), NONE);
        due("mark(0, 99)", x.mark(0, 99), 0);
        due("mark(0, 100)", x.mark(0, 100), OUTSIDE);
        due("mark(0, -2)", x.mark(0, -2), OUTSIDE);
        due("mark(0, NONE)", x.mark(0, NONE), 99);
        due("mark(0, NONE)", x.mark(0, NONE), NONE);
        due("means(99)", x.means(99), NONE);
    }

    private static void promise6Piece() {
        promise = 6;
        NumberedText x = new NumberedText();
        due("no item", x.piece(0, 9, 0, 0), UNKNOWN);
        add(x, PARAGRAPH, 0);
        add(x, HEADING, 1);
        int[][] outside = {{-1, 1, 0}, {3, 1, 0}, {WORD, 0, 0}, {WORD, 21, 0}, {CALL, -1, 0}, {CALL, 100, 0},
            {CALL, 0, -1}, {CALL, 0, 3}, {NOTE, 0, 0}, {NOTE, 6, 0}};
        for (int[] p : outside) {
            due("outside", x.piece(0, p[0], p[1], p[2]), OUTSIDE);
            due("OUTSIDE goes ahead of NOT", x.piece(1, p[0], p[1], p[2]), OUTSIDE);
        }
        due("no paragraph", x.piece(1, WORD, 1, 0), NOT);
        dueUntouched(x, 2, 0);
        int[][] fine = {{WORD, 1, 77}, {WORD, 20, -5}, {CALL, 0, 0}, {CALL, 99, 2}, {NOTE, 1, 9}, {NOTE, 5, -9}};
        for (int k = 0; k < fine.length; k++) {
            due("piece " + k, x.piece(0, fine[k][0], fine[k][1], fine[k][2]), k + 1);
            due("told 0", x.told(0, k, 0), fine[k][0]);
            due("told 1", x.told(0, k, 1), fine[k][1]);
            due("told 2", x.told(0, k, 2), fine[k][0] == CALL ? fine[k][2] : 0);
        }
        for (int k = fine.length; k < 20; k++) {
            due("piece " + k, x.piece(0, WORD, 1, 0), k + 1);
        }
        due("21st piece", x.piece(0, WORD, 1, 0), FULL);
        due("OUTSIDE goes ahead of FULL", x.piece(0, WORD, 0, 0), OUTSIDE);
        for (int kind = HEADING; kind <= TABLES; kind++) {
            x.put(0, kind, 1);
            due("piece of kind " + kind, x.piece(0, WORD, 1, 0), kind == PARAGRAPH ? 1 : NOT);
        }
    }

    private static void promise7Drop() {
        promise = 7;
        NumberedText x = new NumberedText();
        due("drop(0)", x.drop(0), UNKNOWN);
        add(x, PARAGRAPH, 0);
        add(x, FIGURE, 1);
        due("drop(-1)", x.drop(-1), UNKNOWN);
        due("none to drop", x.drop(0), NOT);
        due("no paragraph", x.drop(1), NOT);
        x.piece(0, WORD, 3, 0);
        x.piece(0, CALL, 3, 1);
        due("drop(0)", x.drop(0), 1);
        due("the first is left", x.told(0, 0, 1), 3);
        due("the last is gone", x.told(0, 1, 0), UNKNOWN);
        due("lines", x.page(0, 1), 1);
        due("drop(0)", x.drop(0), 0);
        due("no lines", x.page(0, 1), 0);
        due("drop(0)", x.drop(0), NOT);
    }

    private static void promise8About() {
        promise = 8;
        NumberedText x = new NumberedText();
        due("about(0, 9)", x.about(0, 9), UNKNOWN);
        add(x, PARAGRAPH, 5);
        add(x, FIGURE, 3);
        add(x, HEADING, 2);
        add(x, FIGURE, 4);
        add(x, TABLE, 6);
        add(x, HEADINGS, 3);
        add(x, HEADING, 2);
        add(x, FIGURES, 7);
        x.piece(0, WORD, 1, 0);
        x.mark(4, 44);
        due("about(0, -1)", x.about(0, -1), OUTSIDE);
        due("about(0, 8)", x.about(0, 8), OUTSIDE);
        due("about(8, 0)", x.about(8, 0), UNKNOWN);
        int[][] all = {
            {0, PARAGRAPH, 0, NONE, 1, NONE, 1, 0},
            {1, FIGURE, 3, NONE, 0, NONE, 1, 1},
            {2, HEADING, 2, NONE, 0, 2, 3, 1},
            {3, FIGURE, 4, NONE, 0, 2, 1, 2},
            {4, TABLE, 6, 44, 0, 2, 1, 1},
            {5, HEADINGS, 3, NONE, 0, 2, 3, 0},
            {6, HEADING, 2, NONE, 0, 6, 3, 2},
            {7, FIGURES, 0, NONE, 0, 6, 3, 0}};
        for (int i = 0; i < all.length; i++) {
            for (int what = 0; what < 8; what++) {
                due("about(" + i + ", " + what + ")", x.about(i, what), all[i][what]);
            }
        }
    }

    /** What headings, figures and tables are said with, by the forms. */
    private static void promise8Forms() {
        promise = 8;
        int[] romans = {1, 2, 3, 2, 1, 2, 3, 4, 2, 1, 2, 3, 4, 3, 2, 3, 4, 5, 3, 2};
        NumberedText roman = withStyle("level 1 roman;");
        for (int n = 1; n <= 60; n++) {
            add(roman, HEADING, 1);
        }
        for (int n = 1; n <= romans.length; n++) {
            due("roman " + n, roman.about(n - 1, 6), romans[n - 1]);
        }
        due("roman 38", roman.about(37, 6), 7);
        due("roman 40", roman.about(39, 6), 2);
        due("roman 49", roman.about(48, 6), 4);
        due("roman 50", roman.about(49, 6), 1);
        due("roman 58", roman.about(57, 6), 5);
        due("roman 60", roman.about(59, 6), 2);
        readStyle(roman, "level 1 letters;");
        due("letters 26", roman.about(25, 6), 1);
        due("letters 27", roman.about(26, 6), 2);
        due("letters 52", roman.about(51, 6), 2);
        due("letters 53", roman.about(52, 6), 2);
        readStyle(roman, "level 1 figures;");
        due("figures 9", roman.about(8, 6), 1);
        due("figures 10", roman.about(9, 6), 2);

        NumberedText x = withStyle("level 1 roman long;level 2 letters;level 3 roman long;level 4 figures long;");
        int[] levels = {3, 1, 1, 1, 2, 3, 3, 4};
        int[] said = {5, 1, 2, 3, 1, 7, 8, 10};
        for (int i = 0; i < levels.length; i++) {
            add(x, HEADING, levels[i]);
            due("said of heading " + i, x.about(i, 6), said[i]);
        }
        NumberedText anew = withStyle("figures anew;level 1 roman;");
        int[] kinds = {FIGURE, HEADING, FIGURE, TABLE, FIGURE, HEADING, HEADING, TABLE, FIGURE};
        int[] count = {1, 1, 1, 1, 2, 2, 3, 1, 1};
        int[] letters = {3, 1, 3, 3, 3, 2, 3, 5, 5};
        for (int i = 0; i < kinds.length; i++) {
            add(anew, kinds[i], 1);
            due("count of " + i, anew.about(i, 7), count[i]);
            due("said of " + i, anew.about(i, 6), letters[i]);
        }
        anew.put(3, HEADING, 2);
        due("a deeper heading does not begin figures anew", anew.about(5, 7), 2);
    }

    private static void promise9Number() {
        promise = 9;
        NumberedText x = new NumberedText();
        due("number(0, 0)", x.number(0, 0), UNKNOWN);
        int[] kinds = {FIGURE, HEADING, HEADING, HEADING, PARAGRAPH, HEADING, TABLE, HEADING, HEADING, FIGURES};
        int[] levels = {1, 3, 1, 2, 0, 2, 1, 4, 1, 0};
        int[][] rows = {{0}, {0, 0, 1}, {1}, {1, 1}, {1, 1}, {1, 2}, {1, 2}, {1, 2, 0, 1}, {2}, {2}};
        for (int i = 0; i < kinds.length; i++) {
            add(x, kinds[i], levels[i]);
            for (int k = 1; k <= 4; k++) {
                due("number(" + i + ", " + k + ")", x.number(i, k), k <= rows[i].length ? rows[i][k - 1] : NONE);
            }
        }
        due("number(0, 0)", x.number(0, 0), OUTSIDE);
        due("number(0, 5)", x.number(0, 5), OUTSIDE);
        due("number(10, 1)", x.number(10, 1), UNKNOWN);
        add(x, HEADING, 2);
        due("a deeper level begins anew", x.number(10, 2), 1);
    }

    private static void promise10Told() {
        promise = 10;
        NumberedText x = withStyle("page 8 by 10;");
        due("told(0, 0, 9)", x.told(0, 0, 9), UNKNOWN);
        add(x, PARAGRAPH, 0);
        add(x, HEADING, 1);
        x.mark(1, 3);
        int[][] pieces = {{WORD, 8, 0}, {NOTE, 2, 0}, {CALL, 3, NUMBER}, {WORD, 3, 0}, {NOTE, 3, 0}, {CALL, 4, PLACE}};
        for (int[] p : pieces) {
            x.piece(0, p[0], p[1], p[2]);
        }
        due("piece -1", x.told(0, -1, 0), UNKNOWN);
        due("piece 6", x.told(0, 6, 0), UNKNOWN);
        due("no paragraph", x.told(1, 0, 0), UNKNOWN);
        due("what -1", x.told(0, 0, -1), OUTSIDE);
        due("what 8", x.told(0, 0, 8), OUTSIDE);
        // lines: "wwwwwwwwn" of 3, "c www" + "n" of 4, "vv": page 1 holds 3 and 4 of 8 lines and 1 more
        int[][] all = {
            {WORD, 8, 0, NONE, 8, 1, 0, 0},
            {NOTE, 2, 0, NONE, 1, 1, 0, 1},
            {CALL, 3, NUMBER, 1, 1, 1, 1, 0},
            {WORD, 3, 0, NONE, 3, 1, 1, 0},
            {NOTE, 3, 0, NONE, 1, 1, 1, 2},
            {CALL, 4, PLACE, NONE, 2, 1, 1, 0}};
        for (int k = 0; k < all.length; k++) {
            for (int what = 0; what < 8; what++) {
                due("told(0, " + k + ", " + what + ")", x.told(0, k, what), all[k][what]);
            }
        }
        x.piece(0, WORD, 1, 0);
        due("a full line takes no more", x.told(0, 6, 6), 2);
        x.piece(0, NOTE, 5, 0);
        due("a line whose notes do not fit goes on", x.told(0, 6, 5), 2);
        due("notes on", x.told(0, 7, 7), 3);
        readStyle(x, "page 8 by 10;notes anew;");
        due("notes anew", x.told(0, 4, 7), 2);
        due("notes anew", x.told(0, 7, 7), 1);
        noteWithoutBlank();
        firstCallOfARound();
    }

    private static void noteWithoutBlank() {
        NumberedText x = withStyle("page 8 by 10;");
        add(x, PARAGRAPH, 0);
        x.piece(0, WORD, 9, 0);
        x.piece(0, NOTE, 1, 0);
        due("no blank ahead of a note", x.told(0, 1, 6), 0);
        x.piece(0, NOTE, 1, 0);
        due("a note that does not fit", x.told(0, 2, 6), 1);
        x.piece(0, WORD, 8, 0);
        due("a blank behind a note", x.told(0, 3, 6), 1);
        x.piece(0, WORD, 20, 0);
        due("a word longer than the line", x.told(0, 4, 6), 2);
        x.piece(0, NOTE, 1, 0);
        due("behind it nothing fits", x.told(0, 5, 6), 3);
        x.piece(0, WORD, 9, 0);
        due("one too many", x.told(0, 6, 6), 4);
    }

    /** By page: one page, its figures and 1; by place: 4, 9, 5. */
    private static void firstCallOfARound() {
        NumberedText x = new NumberedText();
        add(x, PARAGRAPH, 0);
        for (int m = 0; m < 3; m++) {
            x.piece(0, CALL, m, PAGE);
            x.piece(0, CALL, m, PLACE);
        }
        for (int m = 0; m < 12; m++) {
            add(x, FIGURE, 8);
            add(x, FIGURE, 8);
        }
        x.mark(1, 0);
        x.mark(3, 1);
        x.mark(24, 2);
        int[] letters = {2, 4, 2, 9, 3, 5};
        for (int k = 0; k < letters.length; k++) {
            due("letters of call " + k, x.told(0, k, 4), letters[k]);
        }
        due("page of the last figure", x.page(24, 0), 12);
    }

    private static void promise11Count() {
        promise = 11;
        NumberedText x = new NumberedText();
        due("count(-1)", x.count(-1), OUTSIDE);
        due("count(10)", x.count(10), OUTSIDE);
        add(x, FIGURE, 1);
        int first = addCall(x, 1, NUMBER);
        add(x, TABLE, 1);
        add(x, FIGURE, 1);
        int second = addCall(x, 2, PAGE);
        add(x, HEADING, 1);
        x.piece(second, CALL, 50, PLACE);
        x.piece(second, NOTE, 1, 0);
        x.piece(first, WORD, 1, 0);
        due("lonely ahead of marks", x.count(6), 3);
        due("late ahead of marks", x.count(7), 0);
        due("in vain ahead of marks", x.count(4), 3);
        x.mark(0, 1);
        x.mark(2, 1);
        x.mark(3, 2);
        x.mark(5, 2);
        x.feed(3, 0);
        x.cut(5);
        add(x, HEADING, 1);
        x.mark(5, 2);
        int[] all = {6, 7, 5, 3, 1, 2, 1, 2, 3, 1};
        for (int what = 0; what < all.length; what++) {
            due("count(" + what + ")", x.count(what), all[what]);
        }
        x.put(0, PARAGRAPH, 0);
        x.piece(0, CALL, 1, NUMBER);
        due("called ahead, it is late no more", x.count(7), 1);
        x.mark(1, NONE);
        due("the next one bears the mark", x.count(6), 1);
        due("it is called ahead", x.count(7), 1);
        x.mark(4, NONE);
        due("a heading is never lonely", x.count(6), 2);
        due("a heading is never late", x.count(7), 0);
        due("a mark that one item has", x.count(5), 0);
        x.mark(1, 0);
        x.mark(2, 0);
        due("mark 0", x.count(5), 1);
        x.mark(1, 99);
        x.mark(2, 99);
        due("mark 99", x.count(5), 1);
        x.piece(0, NOTE, 1, 0);
        due("a note in the first item", x.count(9), 2);
        due("pieces of the first item", x.count(2), 7);
    }

    // ---- setting

    private static void promise12Set() {
        promise = 12;
        NumberedText x = new NumberedText();
        due("set(-1)", x.set(-1), OUTSIDE);
        due("set(5)", x.set(5), OUTSIDE);
        for (int what = 0; what < 5; what++) {
            due("set(" + what + ") of nothing", x.set(what), 0);
        }
        add(x, PARAGRAPH, 0);
        due("pages of an empty paragraph", x.set(3), 1);
        due("used of an empty paragraph", x.set(4), 0);
        x.piece(0, CALL, 9, NUMBER);
        due("a call in vain is settled at once", x.set(1), 0);
        x.mark(0, 9);
        due("said of NONE is 1", x.set(1), 1);
        due("settled", x.set(0), 0);
        settleChapterByChapter();
        goesRound();
        notesAtFirst();
    }

    /** Nine notes are said with the letter that each has in round 0, the tenth one is not. */
    private static void notesAtFirst() {
        NumberedText x = new NumberedText();
        add(x, PARAGRAPH, 0);
        for (int n = 1; n <= 9; n++) {
            x.piece(0, NOTE, 1, 0);
            due("settled with round 0", x.set(1), 0);
        }
        due("the first piece counts", x.told(0, 8, 7), 9);
        x.piece(0, NOTE, 1, 0);
        due("settled with round 1", x.set(1), 1);
        due("letters of the tenth", x.told(0, 9, 4), 2);
        x.put(0, FIGURE, 8);
        x.put(1, FIGURE, 8);
        readStyle(x, "notes anew;page 16 by 10;");
        due("anew on the second page", x.told(2, 0, 7), 1);
        due("all on one line", x.told(2, 9, 6), 1);
    }

    /**
     * Chapters of two pages. In each a call by place, said long (9), takes a line more, and so what the next
     * chapter calls goes from the first page to the second one, from two pages off to one: each chapter's call is
     * said otherwise one round behind that of the chapter ahead.
     */
    private static NumberedText chapters(int n) {
        NumberedText x = withStyle("page 8 by 10; chapters new;");
        for (int c = 1; c <= n; c++) {
            add(x, HEADING, 1);
            int caller = add(x, PARAGRAPH, 0);
            x.piece(caller, WORD, 4, 0);
            x.piece(caller, CALL, c - 1, PLACE);
            x.piece(caller, WORD, 20, 0);
            x.piece(caller, WORD, 20, 0);
            x.mark(addLines(x, 3), c);
            if (c == 1) {
                x.mark(addLines(x, 1), 0);
            }
        }
        return x;
    }

    private static void settleChapterByChapter() {
        for (int n = 1; n <= 13; n++) {
            NumberedText x = chapters(n);
            due("outcome of " + n, x.set(0), n <= 11 ? 0 : 2);
            due("last round of " + n, x.set(1), Math.min(n, 11));
            due("period of " + n, x.set(2), 0);
            due("pages of " + n, x.set(3), 2 * n);
            due("used of the last page of " + n, x.set(4), n == 1 ? 4 : n <= 11 ? 3 : 1);
            int lastCaller = x.count(0) - 2 - (n == 1 ? 1 : 0);
            due("letters of the last call of " + n, x.told(lastCaller, 1, 4), n <= 11 ? 9 : 5);
        }
    }

    /** A call by place, said with 9 letters, pushes what it calls two pages off; said with 5, it draws it back. */
    private static NumberedText ring() {
        NumberedText x = withStyle("page 8 by 10;");
        int caller = add(x, PARAGRAPH, 0);
        x.piece(caller, WORD, 4, 0);
        x.piece(caller, CALL, 1, PLACE);
        addLines(x, 14);
        x.mark(addLines(x, 1), 1);
        return x;
    }

    private static void goesRound() {
        NumberedText x = ring();
        int[] all = {1, 2, 2, 2, 8};
        for (int what = 0; what < 5; what++) {
            due("set(" + what + ") of a ring", x.set(what), all[what]);
        }
        due("letters", x.told(0, 1, 4), 5);
        due("page", x.page(2, 0), 2);
        x.put(1, PARAGRAPH, 0);
        x.piece(1, WORD, 1, 0);
        due("one line more, and it is far at once", x.set(0), 0);
        due("settled with round 1", x.set(1), 1);
        x.mark(3, NONE);
        due("in vain, it is settled with round 0", x.set(1), 0);
    }

    private static void promise13Page() {
        promise = 13;
        NumberedText x = new NumberedText();
        due("page(0, 5)", x.page(0, 5), UNKNOWN);
        int[] levels = {1, 2, 3, 4};
        int[] lines = {3, 2, 1, 1};
        for (int n = 0; n < 4; n++) {
            int i = add(x, HEADING, levels[n]);
            due("lines of level " + levels[n], x.page(i, 1), lines[n]);
        }
        due("page(0, -1)", x.page(0, -1), OUTSIDE);
        due("page(0, 3)", x.page(0, 3), OUTSIDE);
        due("page(4, 0)", x.page(4, 0), UNKNOWN);
        int empty = add(x, PARAGRAPH, 0);
        due("lines of an empty paragraph", x.page(empty, 1), 0);
        due("page of an empty paragraph", x.page(empty, 0), 1);
        due("last page of an empty paragraph", x.page(empty, 2), 1);
        headingsNeedTwoMore();
        firstLineIsNotAlone();
        chaptersOnNewPages();
    }

    private static void headingsNeedTwoMore() {
        for (int level = 1; level <= 4; level++) {
            int own = level == 1 ? 3 : level == 2 ? 2 : 1;
            for (int ahead = 1; ahead <= 8; ahead++) {
                NumberedText x = withStyle("page 8 by 20;");
                addLines(x, ahead);
                int i = add(x, HEADING, level);
                due("level " + level + " behind " + ahead, x.page(i, 0), ahead + own + 2 <= 8 ? 1 : 2);
                due("its last page", x.page(i, 2), x.page(i, 0));
            }
        }
    }

    private static void firstLineIsNotAlone() {
        for (int ahead = 5; ahead <= 8; ahead++) {
            NumberedText x = withStyle("page 8 by 20;");
            addLines(x, ahead);
            int one = addLines(x, 1);
            due("one line behind " + ahead, x.page(one, 0), ahead <= 7 ? 1 : 2);
            x.cut(one);
            int two = addLines(x, 3);
            due("three lines behind " + ahead, x.page(two, 0), ahead <= 6 ? 1 : 2);
            due("the last of them", x.page(two, 2), ahead <= 5 ? 1 : 2);
            due("their lines", x.page(two, 1), 3);
        }
        NumberedText x = withStyle("page 8 by 20;");
        int twenty = addLines(x, 20);
        due("twenty lines", x.page(twenty, 2), 3);
        due("twenty lines", x.set(4), 4);
    }

    private static void chaptersOnNewPages() {
        NumberedText x = withStyle("chapters new;");
        add(x, HEADING, 1);
        due("at the start no page is left empty", x.page(0, 0), 1);
        add(x, HEADING, 1);
        due("a chapter", x.page(1, 0), 2);
        add(x, HEADING, 2);
        due("no chapter", x.page(2, 0), 2);
        readStyle(x, "");
        due("chapters on", x.page(1, 0), 1);
        NumberedText y = withStyle("page 8 by 20;chapters new;");
        addLines(y, 1);
        for (int n = 0; n < 3; n++) {
            add(y, FIGURE, 8);
        }
        int chapter = add(y, HEADING, 1);
        due("a chapter behind figures that wait", y.page(chapter, 0), 5);
    }

    private static void promise13Floats() {
        promise = 13;
        NumberedText x = withStyle("page 10 by 20;");
        addLines(x, 4);
        int[] kinds = {FIGURE, TABLE, FIGURE, TABLE, FIGURE};
        int[] lines = {6, 1, 8, 2, 1};
        int[] pages = {1, 2, 2, 3, 3};
        for (int n = 0; n < kinds.length; n++) {
            due("lines of " + n, x.page(add(x, kinds[n], lines[n]), 1), lines[n]);
        }
        for (int n = 0; n < kinds.length; n++) {
            due("page of float " + n, x.page(n + 1, 0), pages[n]);
            due("last page of float " + n, x.page(n + 1, 2), pages[n]);
        }
        int after = addLines(x, 3);
        due("one line is left beside 9", x.used(2), 9);
        due("text behind those that waited", x.page(after, 0), 3);
        due("used", x.used(3), 6);
        x.move(1, 4);
        due("one that fits", x.page(1, 0), 1);
        due("one that does not", x.page(2, 0), 2);
        due("one that fits, but another one waits", x.page(3, 0), 2);
        due("text goes on while they wait", x.page(after, 0), 1);
        due("used", x.used(1), 8);
        due("at the end a page for those that wait", x.used(2), 10);
        due("and one more", x.used(3), 7);
    }

    private static void promise13Notes() {
        promise = 13;
        NumberedText x = withStyle("page 8 by 20;");
        addLines(x, 2);
        int noted = addLines(x, 1);
        x.piece(noted, NOTE, 5, 0);
        due("a note behind a full line begins one", x.page(noted, 1), 2);
        due("both lines need 7, so they go on", x.page(noted, 0), 2);
        due("used", x.used(2), 7);
        x.drop(noted);
        x.drop(noted);
        x.piece(noted, WORD, 1, 0);
        x.piece(noted, NOTE, 5, 0);
        due("a line with a note of 5 needs 6", x.page(noted, 0), 1);
        due("used", x.used(1), 8);
        x.piece(noted, NOTE, 1, 0);
        due("with one more it goes on", x.page(noted, 0), 2);
        x.piece(noted, NOTE, 5, 0);
        due("more than a page holds is set all the same", x.used(2), 12);
        int next = addLines(x, 1);
        due("behind it nothing fits", x.page(next, 0), 3);
    }

    private static void promise14Used() {
        promise = 14;
        NumberedText x = new NumberedText();
        due("no pages", x.used(1), UNKNOWN);
        due("no page 0", x.used(0), UNKNOWN);
        add(x, FIGURE, 7);
        add(x, FIGURE, 8);
        add(x, FIGURE, 6);
        due("page 1", x.used(1), 15);
        due("page 2", x.used(2), 6);
        due("page 3", x.used(3), UNKNOWN);
        due("page 0", x.used(0), UNKNOWN);
        due("page -1", x.used(-1), UNKNOWN);
        due("a page far off", x.used(Integer.MAX_VALUE), UNKNOWN);
        x.cut(0);
        due("page 2 is gone", x.used(2), UNKNOWN);
    }

    private static void promise15Round() {
        promise = 15;
        NumberedText x = ring();
        due("round -1", x.round(-1), OUTSIDE);
        int[] pages = {2, 3, 2};
        for (int r = 0; r < 3; r++) {
            due("round " + r, x.round(r), pages[r]);
        }
        due("round 3", x.round(3), OUTSIDE);
        NumberedText open = chapters(12);
        due("round 11", open.round(11), 24);
        due("round 12", open.round(12), OUTSIDE);
    }

    private static void promise16List() {
        promise = 16;
        NumberedText x = withStyle("page 8 by 20;");
        due("no item", x.list(0, 0), UNKNOWN);
        int[] kinds = {HEADINGS, FIGURES, HEADING, FIGURE, TABLE, HEADING, PARAGRAPH, FIGURE, HEADING, TABLES};
        int[] a = {2, 0, 1, 1, 1, 3, 0, 1, 2, 0};
        for (int i = 0; i < kinds.length; i++) {
            add(x, kinds[i], a[i]);
        }
        dueList(x, 0, 2, 8);
        dueList(x, 1, 3, 7);
        dueList(x, 9, 4);
        for (int i = 0; i < kinds.length; i++) {
            boolean isList = kinds[i] >= HEADINGS;
            due("item " + i, x.list(i, 99), isList ? NONE : NOT);
            due("ahead of item " + i, x.list(i, -1), isList ? NONE : NOT);
        }
        due("no item", x.list(10, 0), UNKNOWN);
        x.move(3, 0);
        dueList(x, 2, 0, 7);
        x.move(3, 0);
        dueList(x, 2, 0, 8);
        due("lines of the list", x.page(2, 1), 2);
        NumberedText lines = withStyle("page 8 by 20;");
        addLines(lines, 7);
        int list = add(lines, FIGURES, 0);
        due("a list without lines", lines.page(list, 0), 1);
        add(lines, FIGURE, 1);
        due("a list of one line", lines.page(list, 0), 1);
        for (int n = 0; n < 8; n++) {
            add(lines, FIGURE, 1);
        }
        due("lines of a list", lines.page(list, 1), 9);
        due("its first line does not stay alone", lines.page(list, 0), 2);
        due("its last line", lines.page(list, 2), 3);
    }

    private static void dueList(NumberedText x, int i, int... places) {
        for (int k = 0; k < places.length; k++) {
            due("list(" + i + ", " + k + ")", x.list(i, k), places[k]);
        }
        due("behind the list at " + i, x.list(i, places.length), NONE);
    }

    private static void promise17Best() {
        promise = 17;
        NumberedText x = new NumberedText();
        int[][] outside = {{7, 8, 0}, {60, 61, 0}, {9, 8, 0}, {8, 24, 0}, {8, 8, -1}, {8, 8, 2},
            {Integer.MIN_VALUE, Integer.MAX_VALUE, 0}, {Integer.MAX_VALUE, Integer.MIN_VALUE, 0}};
        for (int[] o : outside) {
            due("best", x.best(o[0], o[1], o[2]), OUTSIDE);
        }
        due("of nothing", x.best(9, 24, 0), 9);
        due("of nothing", x.best(9, 24, 1), 0);
        addLines(x, 19);
        readStyle(x, "page 30 by 20;");
        due("19 lines: H", x.best(8, 23, 0), 19);
        due("19 lines: PAGES", x.best(8, 23, 1), 1);
        due("19 lines: H", x.best(8, 18, 0), 10);
        due("19 lines: PAGES", x.best(8, 18, 1), 2);
        due("60", x.best(60, 60, 0), 60);
        due("the style stays", x.style(0), 30);
        due("what is set stays", x.set(3), 1);
        NumberedText ring = ring();
        due("8 goes round", ring.best(8, 8, 0), NONE);
        due("8 goes round", ring.best(8, 8, 1), NONE);
        due("9 does not", ring.best(8, 9, 0), 9);
        due("the outcome stays", ring.set(0), 1);
    }

    // ---- calls

    private static void promise18Means() {
        promise = 18;
        NumberedText x = new NumberedText();
        due("means(-1)", x.means(-1), OUTSIDE);
        due("means(100)", x.means(100), OUTSIDE);
        due("means(0)", x.means(0), NONE);
        for (int n = 0; n < 3; n++) {
            add(x, PARAGRAPH, 0);
        }
        x.mark(2, 99);
        due("means(99)", x.means(99), 2);
        x.mark(1, 99);
        due("the first one that has it", x.means(99), 1);
        x.move(1, 2);
        due("still the first one", x.means(99), 1);
        x.cut(1);
        due("the other one", x.means(99), 1);
    }

    private static void promise19Called() {
        promise = 19;
        NumberedText x = new NumberedText();
        due("called(0)", x.called(0), UNKNOWN);
        int caller = addCall(x, 1, NUMBER);
        x.piece(caller, CALL, 1, PAGE);
        x.piece(caller, WORD, 1, 0);
        x.piece(caller, NOTE, 1, 0);
        x.piece(caller, CALL, 2, PAGE);
        add(x, TABLE, 1);
        add(x, TABLE, 1);
        x.mark(2, 1);
        due("called", x.called(2), 2);
        x.mark(1, 1);
        due("called", x.called(1), 2);
        due("not the second one with the mark", x.called(2), 0);
        x.mark(0, 2);
        due("itself", x.called(0), 1);
        due("called(-1)", x.called(-1), UNKNOWN);
        due("called(3)", x.called(3), UNKNOWN);
    }

    /** Sections NONE, 2, 4, 6, 8: NONE calls 2, 2 calls 4 and itself, 4 calls 6, 6 calls 2; 8 calls NONE. */
    private static NumberedText fiveSections() {
        NumberedText x = new NumberedText();
        add(x, TABLE, 1);
        addCall(x, 2, NUMBER);
        int[] calls = {4, 6, 2, 1};
        for (int m = 0; m < 4; m++) {
            int heading = add(x, HEADING, m + 1);
            x.mark(heading, heading);
            addCall(x, calls[m], PAGE);
        }
        x.mark(0, 1);
        x.piece(3, CALL, 2, PLACE);
        x.piece(3, CALL, 77, PLACE);
        return x;
    }

    private static void promise20Far() {
        promise = 20;
        NumberedText x = fiveSections();
        int[][] far = {{0, 1, 2, 3, NONE}, {NONE, 0, 1, 2, NONE}, {NONE, 2, 0, 1, NONE}, {NONE, 1, 2, 0, NONE},
            {1, 2, 3, 4, 0}};
        for (int i = 0; i < 10; i++) {
            for (int j = 0; j < 10; j++) {
                due("far(" + i + ", " + j + ")", x.far(i, j), far[i / 2][j / 2]);
            }
        }
        due("far(-1, 0)", x.far(-1, 0), UNKNOWN);
        due("far(0, 10)", x.far(0, 10), UNKNOWN);
        due("far(10, 0)", x.far(10, 0), UNKNOWN);
        longWay();
    }

    /** Twenty-nine sections, each of which calls the next one, and the last one NONE. */
    private static void longWay() {
        NumberedText x = new NumberedText();
        addCall(x, 1, NUMBER);
        for (int n = 1; n <= 29; n++) {
            x.mark(add(x, HEADING, 1), n);
            addCall(x, n == 29 ? 99 : n + 1, NUMBER);
        }
        x.mark(0, 99);
        due("far", x.far(0, 58), 29);
        due("far", x.far(58, 0), 1);
        due("far", x.far(2, 0), 29);
        due("knotted", x.knotted(30), 29);
        x.mark(0, NONE);
        due("far", x.far(58, 0), NONE);
        due("knotted", x.knotted(30), 0);
    }

    private static void promise21Knotted() {
        promise = 21;
        NumberedText x = fiveSections();
        int[] knotted = {0, 2, 2, 2, 0};
        for (int i = 0; i < 10; i++) {
            due("knotted(" + i + ")", x.knotted(i), knotted[i / 2]);
        }
        due("knotted(-1)", x.knotted(-1), UNKNOWN);
        due("knotted(10)", x.knotted(10), UNKNOWN);
        x.mark(9, 4);
        due("the first one bears the mark", x.knotted(2), 2);
        x.mark(4, NONE);
        due("the ring goes through the other ones", x.knotted(0), 2);
        due("4 is out of it", x.knotted(4), 0);
    }

    // ---- versions

    private static void promise22Keep() {
        promise = 22;
        NumberedText x = new NumberedText();
        due("keep(-1)", x.keep(-1), UNKNOWN);
        due("keep(3)", x.keep(3), UNKNOWN);
        due("keep(0) of nothing", x.keep(0), 0);
        add(x, PARAGRAPH, 0);
        add(x, HEADING, 1);
        due("keep(2)", x.keep(2), 2);
        x.cut(0);
        due("keep(1)", x.keep(1), 1);
        due("it is kept apart", x.back(2), 2);
        due("and another one", x.back(0), 0);
        due("and another one", x.back(1), 1);
        due("kept anew", x.keep(2), 1);
        due("it is the new one", x.back(2), 1);
    }

    private static void promise23Back() {
        promise = 23;
        NumberedText x = withStyle("page 9 by 11;level 2 roman;");
        due("not kept", x.back(0), UNKNOWN);
        int i = addCall(x, 8, PLACE);
        x.piece(i, NOTE, 4, 0);
        add(x, HEADING, 3);
        x.mark(1, 8);
        x.keep(0);
        readStyle(x, "notes anew;");
        x.drop(i);
        x.drop(i);
        x.piece(i, WORD, 7, 0);
        x.mark(1, NONE);
        x.put(0, FIGURE, 1);
        x.move(0, 2);
        x.feed(1, 'p');
        due("lines ahead of it", x.page(0, 1), 1);
        due("back", x.back(0), 2);
        dueNames(x, 0, 1);
        due("H", x.style(0), 9);
        due("W", x.style(1), 11);
        due("form", x.style(3), 2);
        due("notes", x.style(11), 0);
        due("mark", x.about(1, 3), 8);
        due("pieces", x.about(0, 4), 2);
        due("kind", x.told(0, 0, 0), CALL);
        due("way", x.told(0, 0, 2), PLACE);
        due("note", x.told(0, 1, 1), 4);
        due("what is set", x.set(3), 1);
        due("used", x.set(4), 6);
        due("letters", x.told(0, 0, 4), 4);
        due("bytes stay", x.count(8), 1);
        due("names are not given again", x.put(0, PARAGRAPH, 0), 3);
        due("the version stays as it was", x.back(0), 2);
        due("back(1)", x.back(1), UNKNOWN);
        due("back(3)", x.back(3), UNKNOWN);
        due("back(-1)", x.back(-1), UNKNOWN);
    }

    private static void dueBeside(NumberedText x, String when, int... all) {
        for (int what = 0; what < 5; what++) {
            due("beside(0, " + what + ") " + when, x.beside(0, what), all[what]);
        }
    }

    private static void promise24Beside() {
        promise = 24;
        NumberedText x = withStyle("page 8 by 20;");
        due("not kept", x.beside(0, 9), UNKNOWN);
        due("beside(-1, 0)", x.beside(-1, 0), UNKNOWN);
        due("beside(3, 0)", x.beside(3, 0), UNKNOWN);
        add(x, HEADING, 1);
        int caller = addCall(x, 1, NUMBER);
        x.piece(caller, CALL, 2, PAGE);
        x.piece(caller, CALL, 3, PLACE);
        int first = add(x, FIGURE, 1);
        int second = add(x, FIGURE, 1);
        x.mark(first, 2);
        x.mark(second, 3);
        x.mark(0, 1);
        x.keep(0);
        due("beside(0, -1)", x.beside(0, -1), OUTSIDE);
        due("beside(0, 5)", x.beside(0, 5), OUTSIDE);
        dueBeside(x, "just kept", 0, 0, 0, 0, 0);
        x.move(2, 3);
        dueBeside(x, "figures change places", 0, 2, 0, 0, 0);
        x.back(0);
        x.put(0, PARAGRAPH, 0);
        dueBeside(x, "a paragraph comes", 1, 0, 0, 0, 0);
        x.cut(4);
        dueBeside(x, "a figure goes", 2, 0, 0, 1, 1);
        x.back(0);
        x.put(0, HEADING, 1);
        x.mark(0, 1);
        dueBeside(x, "another chapter takes the mark", 1, 4, 1, 1, 1);
        x.back(0);
        x.mark(2, 3);
        x.mark(3, 2);
        dueBeside(x, "marks change", 0, 0, 0, 0, 2);
        x.back(0);
        x.put(0, FIGURE, 8);
        dueBeside(x, "all goes on by a page", 1, 2, 4, 0, 0);
        x.back(0);
        x.drop(1);
        x.piece(1, WORD, 1, 0);
        x.piece(1, CALL, 3, PLACE);
        dueBeside(x, "pieces of the same place alone", 0, 0, 0, 0, 0);
        x.back(0);
        x.drop(1);
        x.mark(3, NONE);
        dueBeside(x, "a call that is no more", 0, 0, 0, 0, 0);
        deepRows();
        x.back(0);
        x.back(0);
        readStyle(x, "page 8 by 20;level 1 roman;figures anew;");
        x.put(0, HEADING, 1);
        dueBeside(x, "each by its own style", 1, 4, 1, 2, 0);
        due("what is set stays that of the text", x.about(1, 6), 2);
    }

    private static void deepRows() {
        NumberedText x = new NumberedText();
        add(x, HEADING, 4);
        add(x, HEADING, 4);
        add(x, PARAGRAPH, 0);
        x.keep(0);
        x.move(2, 1);
        dueBeside(x, "the paragraph changes from level 4's 2 to 1", 0, 1, 0, 0, 0);
        x.put(0, HEADING, 2);
        dueBeside(x, "a level ahead of all counts", 1, 3, 0, 0, 0);
    }

    // ---- style

    private static void promise25Feed() {
        promise = 25;
        NumberedText x = new NumberedText();
        due("feed(0)", x.feed(0, 0), OUTSIDE);
        due("feed(9)", x.feed(9, 0), OUTSIDE);
        due("feed(-1)", x.feed(-1, 0), OUTSIDE);
        for (int n = 1; n <= 19; n++) {
            due("feed(8)", x.feed(8, 0x2020202020202020L), 8 * n);
        }
        due("feed(7)", x.feed(7, 0x20202020202020L), 159);
        due("161 bytes", x.feed(2, 0x2020), FULL);
        due("nothing came", x.count(8), 159);
        due("160 bytes", x.feed(1, 0x20), 160);
        due("161 bytes", x.feed(1, 0x20), FULL);
        due("OUTSIDE goes ahead of FULL", x.feed(9, 0x20), OUTSIDE);
        due("blanks alone", x.read(), 0);
        due("it is empty then", x.count(8), 0);
        long notes = 0x6e6f746573206f6eL;
        due("the highest first", x.feed(8, notes), 8);
        due("higher ones are not looked at", x.feed(1, 0x7f7f7f7f7f7f7f3bL), 9);
        due("notes on;", x.read(), 1);
        due("a byte above 127", x.feed(1, 0xffL), 1);
        due("it cannot stand there", x.read(), -11);
    }

    private static void promise26Read() {
        promise = 26;
        NumberedText x = new NumberedText();
        due("empty", x.read(), 0);
        String all = "page 60 by 90;level 1 roman;level 2 letters long;level 3 figures;level 4 roman long;"
                + "figures anew;notes anew;chapters new;";
        due(all, readStyle(x, all), 8);
        dueStyle(x, 60, 90, 2, 1, 0, 2, 0, 1, 0, 1, 1, 1, 1);
        due("a fault", readStyle(x, "page 8 by 10;notes on;chapters off;"), -11);
        dueStyle(x, 60, 90, 2, 1, 0, 2, 0, 1, 0, 1, 1, 1, 1);
        due("the text is empty then", x.count(8), 0);
        due("tight", readStyle(x, "page8by10;level4letters;notes on;figures on;chapters on;"), 5);
        dueStyle(x, 8, 10, 0, 0, 0, 1, 1, 1, 1, 0, 0, 0, 0);
        due("wide", readStyle(x, "  level  04  roman  long  ;  page  09  by  10  ;  "), 2);
        dueStyle(x, 9, 10, 0, 0, 0, 2, 1, 1, 1, 1, 0, 0, 0);
        due("empty: as at first", x.read(), 0);
        dueStyle(x, 20, 40, 0, 0, 0, 0, 1, 1, 1, 1, 0, 0, 0);
    }

    private static void dueStyle(NumberedText x, int... all) {
        for (int what = 0; what < all.length; what++) {
            due("style(" + what + ")", x.style(what), all[what]);
        }
    }

    private static void dueFault(String style, int number, int at) {
        NumberedText x = new NumberedText();
        due("read of '" + style + "'", readStyle(x, style), -10 - number);
        due("fault of '" + style + "'", x.fault(), at);
        dueStyle(x, 20, 40, 0, 0, 0, 0, 1, 1, 1, 1, 0, 0, 0);
    }

    private static void promise27Fault() {
        promise = 27;
        NumberedText x = new NumberedText();
        due("no read yet", x.fault(), NONE);
        due("a fault", readStyle(x, "  ;"), -11);
        due("its byte", x.fault(), 2);
        due("no fault", x.read(), 0);
        due("none", x.fault(), NONE);
        dueFault(";", 1, 0);
        dueFault("notes on", 1, 8);
        dueFault("notes on  ", 1, 10);
        dueFault("notes", 1, 5);
        dueFault("notes on;;", 1, 9);
        dueFault("noteson;", 1, 0);
        dueFault("pagex 8 by 10;", 1, 0);
        dueFault("pagez 8 by 10;", 1, 0);
        dueFault("page` 8 by 10;", 1, 4);
        dueFault("page{ 8 by 10;", 1, 4);
        dueFault("page 8/ by 10;", 1, 6);
        dueFault("page 8: by 10;", 1, 6);
        dueFault("page 0 by 10;", 2, 5);
        dueFault("page 09 by 99;", 2, 11);
        dueFault("pa ge 8 by 10;", 1, 0);
        dueFault("notes new;", 1, 6);
        dueFault("chapters anew;", 1, 9);
        dueFault("figures figures;", 1, 8);
        dueFault("Page 8 by 10;", 1, 0);
        dueFault("page 8 by 10:", 1, 12);
        dueFault("page by 10;", 1, 5);
        dueFault("page 8 10;", 1, 7);
        dueFault("page 8 by;", 1, 9);
        dueFault("page 8 8 by 10;", 1, 7);
        dueFault("page 800;", 2, 5);
        dueFault("page 7 by 10;", 2, 5);
        dueFault("page 61 by 10;", 2, 5);
        dueFault("page 8 by 9;", 2, 10);
        dueFault("page 8 by 91;", 2, 10);
        dueFault("page 008 by 10;", 2, 5);
        dueFault("page 8 by 010;", 2, 10);
        dueFault("page 8 by 99999999999999999999999;", 2, 10);
        dueFault("page 1 8 by 10;", 2, 5);
        dueFault("notes 100;", 1, 6);
        dueFault("level 0 roman;", 2, 6);
        dueFault("level 5 roman;", 2, 6);
        dueFault("level 001 roman;", 2, 6);
        dueFault("level roman;", 1, 6);
        dueFault("level 1;", 1, 7);
        dueFault("level 1 long;", 1, 8);
        dueFault("level 1 roman long long;", 1, 19);
        dueFault("level 1 roman letters;", 1, 14);
        dueFault("level 1 roman;level 2 roman; level 1 x;", 3, 35);
        dueFault("level 1 roman;level 01 roman;", 3, 20);
        dueFault("level 1 roman;level 101 roman;", 2, 20);
        dueFault("page 8 by 10;page 8 by 10;", 3, 13);
        dueFault("page 8 by 10; page 7 by 10;", 3, 14);
        dueFault("notes on;notes anew;", 3, 9);
        dueFault("figures on; notes on; figures on;", 3, 22);
        dueFault("chapters new;chapters", 3, 13);
        dueFault("chapters new chapters", 1, 13);
        dueFault("notes on\n;", 1, 8);
        dueFault("\u00e9", 1, 0);
    }

    private static void promise28Style() {
        promise = 28;
        NumberedText x = new NumberedText();
        due("style(-1)", x.style(-1), OUTSIDE);
        due("style(13)", x.style(13), OUTSIDE);
        for (int level = 1; level <= 4; level++) {
            String[] forms = {"figures", "letters", "roman"};
            for (int form = 0; form < 3; form++) {
                due("read", readStyle(x, "level " + level + " " + forms[form] + ";"), 1);
                for (int l = 1; l <= 4; l++) {
                    due("form of " + l, x.style(1 + l), l == level ? form : 0);
                    due("long of " + l, x.style(5 + l), l == level ? 0 : 1);
                }
                due("read", readStyle(x, "level " + level + " " + forms[form] + " long;"), 1);
                due("long of " + level, x.style(5 + level), 1);
            }
        }
        String[] clauses = {"figures anew;", "notes anew;", "chapters new;"};
        for (int c = 0; c < 3; c++) {
            due("read", readStyle(x, clauses[c]), 1);
            for (int what = 10; what <= 12; what++) {
                due("style(" + what + ") of " + clauses[c], x.style(what), what == 10 + c ? 1 : 0);
            }
        }
    }
}
