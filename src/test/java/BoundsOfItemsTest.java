/** Boundary cases of the document's parts 1 and 2 and of the promises 1 to 11, a test for each sentence. */
public final class BoundsOfItemsTest {
    private static final int NONE = Desk.NONE, UNKNOWN = Desk.UNKNOWN, OUTSIDE = Desk.OUTSIDE, NOT = Desk.NOT,
            FULL = Desk.FULL;
    private static final int HEADING = Desk.HEADING, PARAGRAPH = Desk.PARAGRAPH, FIGURE = Desk.FIGURE,
            TABLE = Desk.TABLE, HEADINGS = Desk.HEADINGS, FIGURES = Desk.FIGURES, TABLES = Desk.TABLES;
    private static final int WORD = Desk.WORD, CALL = Desk.CALL, NOTE = Desk.NOTE;
    private static final int NUMBER = Desk.NUMBER, PAGE = Desk.PAGE, PLACE = Desk.PLACE;
    private static final int LEAST = Desk.LEAST, MOST = Desk.MOST;
    private static final int[] NO_PLACES_OF_THREE = {LEAST, -1001, -2, -1, 3, 4, 59, 60, 61, MOST};

    public static void main(String[] args) throws IllegalAccessException {
        Desk.runAll(BoundsOfItemsTest.class);
    }

    private static void due(String call, int got, int want) {
        Desk.due(call, got, want);
    }

    private static NumberedText withParagraphs(int n) {
        NumberedText x = new NumberedText();
        for (int i = 0; i < n; i++) {
            x.put(i, PARAGRAPH, 0);
        }
        return x;
    }

    // ---- terms

    static void usedFor512Calls() {
        Desk.sentence("An object is used for at most 512 calls after it has been made");
        NumberedText x = new NumberedText();
        for (int n = 1; n <= 170; n++) {
            due("put, call " + (3 * n - 2), x.put(0, HEADING, 1), n - 1);
            due("set, call " + (3 * n - 1), x.set(4), 3);
            due("cut, call " + 3 * n, x.cut(0), n - 1);
        }
        due("put, call 511", x.put(0, FIGURE, 8), 170);
        due("set, call 512", x.set(4), 8);
    }

    static void noneAndRefusals() {
        Desk.sentence("NONE = -1, UNKNOWN = -1001, OUTSIDE = -1002, NOT = -1003, FULL = -1004");
        due("NONE", NumberedText.NONE, -1);
        due("UNKNOWN", NumberedText.UNKNOWN, -1001);
        due("OUTSIDE", NumberedText.OUTSIDE, -1002);
        due("NOT", NumberedText.NOT, -1003);
        due("FULL", NumberedText.FULL, -1004);
    }

    static void numbersFromZeroOn() {
        Desk.sentence("What has a number has it from 0 on");
        NumberedText x = new NumberedText();
        due("the first name", x.put(0, FIGURES, 0), 0);
        x.put(1, PARAGRAPH, 0);
        x.piece(1, WORD, 7, 0);
        x.put(2, FIGURE, 1);
        due("the first item", x.about(0, 1), FIGURES);
        due("the first piece", x.told(1, 0, 1), 7);
        due("the first line", x.told(1, 0, 6), 0);
        due("the first that is listed", x.list(0, 0), 2);
        due("the first mark", x.mark(2, 0), NONE);
        due("what it means", x.means(0), 2);
        due("the first round", x.round(0), 1);
        due("the first version", x.keep(0), 3);
        Desk.read(x, "x");
        due("the first byte", x.fault(), 0);
    }

    // ---- 1: the text

    static void sixtyItems() {
        Desk.sentence("THE TEXT is a row of ITEMS (60 at most)");
        NumberedText x = withParagraphs(59);
        due("the 60th", x.put(59, PARAGRAPH, 0), 59);
        due("the 61st at the end", x.put(60, PARAGRAPH, 0), FULL);
        due("the 61st at the start", x.put(0, HEADING, 1), FULL);
        due("the 61st within", x.put(30, TABLE, 1), FULL);
        due("items", x.count(0), 60);
        due("the first", x.about(0, 0), 0);
        due("the last", x.about(59, 0), 59);
        x.cut(7);
        due("with room again", x.put(59, PARAGRAPH, 0), 60);
        due("and without", x.put(59, PARAGRAPH, 0), FULL);
    }

    static void namesAreTheNextNumbers() {
        Desk.sentence("each has a NAME, the next number when it is put in");
        NumberedText x = new NumberedText();
        due("first", x.put(0, PARAGRAPH, 0), 0);
        due("refused", x.put(0, HEADING, 5), OUTSIDE);
        due("refused", x.put(2, PARAGRAPH, 0), OUTSIDE);
        due("next, ahead of it", x.put(0, FIGURE, 1), 1);
        due("next, between", x.put(1, TABLE, 1), 2);
        Desk.dueNames(x, 1, 2, 0);
    }

    static void twoHundredNames() {
        Desk.sentence("200 names in all");
        NumberedText x = new NumberedText();
        for (int n = 0; n < 199; n++) {
            x.put(0, PARAGRAPH, 0);
            x.cut(0);
        }
        due("the 200th", x.put(0, PARAGRAPH, 0), 199);
        due("the 201st", x.put(0, PARAGRAPH, 0), FULL);
        due("names given", x.count(1), 200);
        x.cut(0);
        due("the 201st, without items", x.put(0, PARAGRAPH, 0), FULL);
        due("the 201st of each kind", x.put(0, HEADING, 1), FULL);
        due("items", x.count(0), 0);
        due("names given", x.count(1), 200);
    }

    static void namesAreNeverGivenAgain() {
        Desk.sentence("never given again");
        NumberedText x = withParagraphs(2);
        x.keep(0);
        due("cut the last", x.cut(1), 1);
        due("a new one", x.put(1, PARAGRAPH, 0), 2);
        due("cut all", x.cut(0) + x.cut(0), 2);
        due("a new one", x.put(0, PARAGRAPH, 0), 3);
        due("back", x.back(0), 2);
        due("a new one", x.put(2, PARAGRAPH, 0), 4);
        Desk.dueNames(x, 0, 1, 4);
        due("names given", x.count(1), 5);
    }

    static void sevenKinds() {
        Desk.sentence("KINDS: 0 HEADING .. 6 LIST of TABLES");
        NumberedText x = new NumberedText();
        for (int kind : new int[] {LEAST, -1, 7, 8, MOST}) {
            due("kind " + kind, x.put(0, kind, 1), OUTSIDE);
        }
        for (int kind = 0; kind <= 6; kind++) {
            due("kind " + kind, x.put(kind, kind, 1), kind);
            due("its kind", x.about(kind, 1), kind);
        }
    }

    static void levelsOneToFour() {
        Desk.sentence("HEADING of a LEVEL 1 to 4; LIST of HEADINGS up to a LEVEL 1 to 4");
        for (int kind : new int[] {HEADING, HEADINGS}) {
            NumberedText x = new NumberedText();
            for (int level : new int[] {LEAST, -1, 0, 5, 8, MOST}) {
                due("level " + level + " of kind " + kind, x.put(0, kind, level), OUTSIDE);
            }
            for (int level = 1; level <= 4; level++) {
                due("level " + level + " of kind " + kind, x.put(0, kind, level), level - 1);
                due("its level", x.about(0, 2), level);
            }
        }
    }

    static void oneToEightLines() {
        Desk.sentence("FIGURE, TABLE of 1 to 8 lines");
        for (int kind : new int[] {FIGURE, TABLE}) {
            NumberedText x = new NumberedText();
            for (int lines : new int[] {LEAST, -1, 0, 9, MOST}) {
                due(lines + " lines of kind " + kind, x.put(0, kind, lines), OUTSIDE);
            }
            for (int lines = 1; lines <= 8; lines++) {
                due(lines + " lines of kind " + kind, x.put(0, kind, lines), lines - 1);
                due("its lines", x.about(0, 2), lines);
            }
        }
    }

    static void marksUpTo99() {
        Desk.sentence("An ITEM may have a MARK (0 .. 99; NONE at first)");
        for (int kind = 0; kind <= 6; kind++) {
            NumberedText x = new NumberedText();
            x.put(0, kind, 1);
            due("at first", x.about(0, 3), NONE);
            due("mark 0", x.mark(0, 0), NONE);
            due("mark 99", x.mark(0, 99), 0);
            for (int m : new int[] {LEAST, -1002, -2, 100, 101, MOST}) {
                due("mark " + m, x.mark(0, m), OUTSIDE);
            }
            due("it is as it was", x.about(0, 3), 99);
        }
    }

    static void twentyPieces() {
        Desk.sentence("A PARAGRAPH has PIECES (20 at most; none at first), in order");
        NumberedText x = withParagraphs(2);
        due("at first", x.about(0, 4), 0);
        due("the first one at first", x.told(0, 0, 0), UNKNOWN);
        for (int k = 0; k < 20; k++) {
            due("piece " + k, x.piece(0, WORD, k + 1, 0), k + 1);
        }
        due("a 21st word", x.piece(0, WORD, 1, 0), FULL);
        due("a 21st call", x.piece(0, CALL, 1, 0), FULL);
        due("a 21st note", x.piece(0, NOTE, 1, 0), FULL);
        for (int k = 0; k < 20; k++) {
            due("told " + k, x.told(0, k, 1), k + 1);
        }
        due("pieces", x.about(0, 4), 20);
        due("another paragraph has room", x.piece(1, WORD, 1, 0), 1);
        x.drop(0);
        due("with room again", x.piece(0, NOTE, 5, 0), 20);
        due("and without", x.piece(0, NOTE, 5, 0), FULL);
    }

    static void wordsOfOneToTwenty() {
        Desk.sentence("a WORD of 1 to 20 letters");
        NumberedText x = withParagraphs(1);
        for (int a : new int[] {LEAST, -1, 0, 21, MOST}) {
            due("a word of " + a, x.piece(0, WORD, a, 0), OUTSIDE);
        }
        due("1", x.piece(0, WORD, 1, 0), 1);
        due("20", x.piece(0, WORD, 20, 0), 2);
        due("letters", x.told(0, 0, 4), 1);
        due("letters", x.told(0, 1, 4), 20);
    }

    static void callsOfMarksByWays() {
        Desk.sentence("a CALL of a MARK by a WAY: 0 number, 1 page, 2 place");
        NumberedText x = withParagraphs(1);
        for (int a : new int[] {LEAST, -2, -1, 100, MOST}) {
            due("a call of " + a, x.piece(0, CALL, a, 0), OUTSIDE);
        }
        for (int b : new int[] {LEAST, -1, 3, MOST}) {
            due("a call by " + b, x.piece(0, CALL, 0, b), OUTSIDE);
        }
        due("mark 0 by number", x.piece(0, CALL, 0, NUMBER), 1);
        due("mark 99 by page", x.piece(0, CALL, 99, PAGE), 2);
        due("mark 50 by place", x.piece(0, CALL, 50, PLACE), 3);
        int[] told = {0, NUMBER, 99, PAGE, 50, PLACE};
        for (int k = 0; k < 3; k++) {
            due("its mark", x.told(0, k, 1), told[2 * k]);
            due("its way", x.told(0, k, 2), told[2 * k + 1]);
        }
    }

    static void notesOfOneToFive() {
        Desk.sentence("a NOTE of 1 to 5 lines");
        NumberedText x = withParagraphs(1);
        for (int a : new int[] {LEAST, -1, 0, 6, MOST}) {
            due("a note of " + a, x.piece(0, NOTE, a, 0), OUTSIDE);
        }
        due("1", x.piece(0, NOTE, 1, 0), 1);
        due("used", x.used(1), 2);
        due("5", x.piece(0, NOTE, 5, 0), 2);
        due("used", x.used(1), 7);
    }

    static void threeKindsOfPieces() {
        Desk.sentence("kind 0 a WORD, 1 a CALL, 2 a NOTE");
        NumberedText x = withParagraphs(1);
        for (int kind : new int[] {LEAST, -1, 3, MOST}) {
            due("kind " + kind, x.piece(0, kind, 1, 0), OUTSIDE);
        }
        for (int kind = 0; kind <= 2; kind++) {
            due("kind " + kind, x.piece(0, kind, 1, 0), kind + 1);
            due("its kind", x.told(0, kind, 0), kind);
        }
    }

    static void wayOfAWordIsNotLookedAt() {
        Desk.sentence("kind 0 a WORD (a letters), 2 a NOTE (a lines); told 2: b (0 but of a CALL)");
        for (int kind : new int[] {WORD, NOTE}) {
            NumberedText x = withParagraphs(1);
            int pieces = 0;
            for (int b : new int[] {LEAST, -1, 0, 2, 3, MOST}) {
                due("b = " + b, x.piece(0, kind, 1, b), pieces + 1);
                due("told 2", x.told(0, pieces, 2), 0);
                pieces++;
            }
        }
    }

    static void markMeansTheFirst() {
        Desk.sentence("A MARK MEANS the first ITEM of THE TEXT that has it");
        NumberedText x = withParagraphs(3);
        x.mark(2, 5);
        due("one has it", x.means(5), 2);
        x.mark(0, 5);
        due("two have it", x.means(5), 0);
        x.mark(1, 5);
        due("three have it", x.means(5), 0);
        x.mark(0, NONE);
        due("the next one then", x.means(5), 1);
        x.move(2, 0);
        due("the order of the text counts", x.means(5), 0);
        due("it is the one moved", x.about(0, 0), 2);
    }

    static void callsInVain() {
        Desk.sentence("a CALL of a MARK that none has is in VAIN");
        NumberedText x = withParagraphs(1);
        x.piece(0, CALL, 0, NUMBER);
        x.piece(0, CALL, 99, PAGE);
        x.piece(0, CALL, 99, PLACE);
        due("all", x.count(4), 3);
        due("means", x.told(0, 0, 3), NONE);
        x.mark(0, 99);
        due("one", x.count(4), 1);
        due("means", x.told(0, 0, 3), NONE);
        due("means", x.told(0, 1, 3), 0);
        x.mark(0, 0);
        due("two", x.count(4), 2);
        due("means the first item", x.told(0, 0, 3), 0);
        x.mark(0, NONE);
        due("all again", x.count(4), 3);
    }

    static void sections() {
        Desk.sentence("A SECTION is a HEADING with all ITEMS behind it up to the next HEADING");
        NumberedText x = new NumberedText();
        int[] kinds = {HEADING, HEADING, PARAGRAPH, FIGURE, HEADING, TABLE, HEADINGS, HEADING};
        int[] levels = {2, 1, 0, 1, 4, 1, 1, 3};
        int[] section = {0, 1, 1, 1, 4, 4, 4, 7};
        for (int i = 0; i < kinds.length; i++) {
            Desk.add(x, kinds[i], levels[i]);
        }
        for (int i = 0; i < kinds.length; i++) {
            due("section of " + i, x.about(i, 5), section[i]);
        }
    }

    static void sectionOfNone() {
        Desk.sentence("what is ahead of all is the SECTION of NONE");
        NumberedText x = new NumberedText();
        for (int kind = 1; kind <= 6; kind++) {
            Desk.add(x, kind, 1);
        }
        for (int i = 0; i < 6; i++) {
            due("without headings", x.about(i, 5), NONE);
        }
        x.put(3, HEADING, 4);
        for (int i = 0; i < 7; i++) {
            due("section of " + i, x.about(i, 5), i < 3 ? NONE : 3);
        }
        x.move(3, 0);
        due("a heading ahead of all", x.about(0, 5), 0);
        due("none is ahead of it", x.about(6, 5), 0);
    }

    // ---- 2: numbers

    static void deeperLevelsBeginAnew() {
        Desk.sentence("each HEADING counts one more for its LEVEL, and all deeper LEVELS begin anew (0)");
        NumberedText x = new NumberedText();
        int[] levels = {1, 2, 3, 4, 4, 3, 4, 2, 3, 4, 1, 2, 3, 4};
        int[][] rows = {{1}, {1, 1}, {1, 1, 1}, {1, 1, 1, 1}, {1, 1, 1, 2}, {1, 1, 2}, {1, 1, 2, 1}, {1, 2}, {1, 2, 1},
            {1, 2, 1, 1}, {2}, {2, 1}, {2, 1, 1}, {2, 1, 1, 1}};
        for (int i = 0; i < levels.length; i++) {
            Desk.add(x, HEADING, levels[i]);
            dueRow(x, i, rows[i]);
            due("its count", x.about(i, 7), rows[i][levels[i] - 1]);
        }
    }

    private static void dueRow(NumberedText x, int i, int... row) {
        for (int k = 1; k <= 4; k++) {
            due("number(" + i + ", " + k + ")", x.number(i, k), k <= row.length ? row[k - 1] : NONE);
        }
    }

    static void levelsNotToldYet() {
        Desk.sentence("a LEVEL that was not told yet: 0");
        NumberedText x = new NumberedText();
        Desk.add(x, HEADING, 4);
        dueRow(x, 0, 0, 0, 0, 1);
        Desk.add(x, HEADING, 2);
        dueRow(x, 1, 0, 1);
        Desk.add(x, HEADING, 4);
        dueRow(x, 2, 0, 1, 0, 1);
        Desk.add(x, HEADING, 1);
        Desk.add(x, HEADING, 3);
        dueRow(x, 4, 1, 0, 1);
    }

    static void figuresAndTablesCountApart() {
        Desk.sentence("FIGURES count one more each, TABLES likewise");
        NumberedText x = new NumberedText();
        int[] kinds = {FIGURE, TABLE, TABLE, HEADING, FIGURE, HEADING, TABLE, FIGURE};
        int[] counts = {1, 1, 2, 1, 2, 2, 3, 3};
        for (int i = 0; i < kinds.length; i++) {
            Desk.add(x, kinds[i], 1);
            due("count of " + i, x.about(i, 7), counts[i]);
        }
    }

    static void figuresBeginAnew() {
        Desk.sentence("if THE STYLE says so, both begin anew behind each HEADING of LEVEL 1");
        NumberedText x = Desk.styled("figures anew;");
        int[] kinds = {FIGURE, TABLE, HEADING, FIGURE, HEADING, FIGURE, TABLE, HEADING, FIGURE, HEADING, TABLE};
        int[] levels = {1, 1, 1, 1, 2, 1, 1, 4, 1, 1, 1};
        int[] counts = {1, 1, 1, 1, 1, 2, 1, 1, 3, 2, 1};
        for (int i = 0; i < kinds.length; i++) {
            Desk.add(x, kinds[i], levels[i]);
            due("count of " + i, x.about(i, 7), counts[i]);
        }
        Desk.read(x, "figures on;");
        due("the last figure", x.about(8, 7), 4);
        due("the last table", x.about(10, 7), 3);
    }

    static void numberOfOthers() {
        Desk.sentence("NUMBER of a PARAGRAPH, of a LIST is that of its SECTION's HEADING (of NONE: the row of one 0)");
        for (int kind = 1; kind <= 6; kind++) {
            NumberedText x = new NumberedText();
            Desk.add(x, kind, 1);
            Desk.add(x, HEADING, 3);
            Desk.add(x, kind, 1);
            Desk.add(x, HEADING, 1);
            Desk.add(x, kind, 1);
            dueRow(x, 0, 0);
            dueRow(x, 2, 0, 0, 1);
            dueRow(x, 4, 1);
        }
    }

    static void notesCountThroughTheText() {
        Desk.sentence("NOTES count one more each, as PIECES come in THE TEXT");
        NumberedText x = Desk.styled("page 8 by 20;");
        Desk.addPieces(x, NOTE, 5, 0, WORD, 20, 0, NOTE, 5, 0);
        Desk.add(x, HEADING, 1);
        Desk.addPieces(x, WORD, 1, 0, NOTE, 5, 0, CALL, 1, 0);
        int[] first = {1, 0, 2};
        int[] second = {0, 3, 0};
        for (int k = 0; k < 3; k++) {
            due("count of piece " + k, x.told(0, k, 7), first[k]);
            due("count of piece " + k, x.told(2, k, 7), second[k]);
        }
        x.move(2, 0);
        due("moved ahead", x.told(0, 1, 7), 1);
        due("moved behind", x.told(1, 0, 7), 2);
        due("notes", x.count(9), 3);
    }

    static void notesBeginAnewOnEachPage() {
        Desk.sentence("if THE STYLE says so, anew on each PAGE");
        NumberedText x = Desk.styled("page 8 by 20;notes anew;");
        Desk.addPieces(x, NOTE, 1, 0, NOTE, 1, 0);
        Desk.addPieces(x, NOTE, 1, 0, WORD, 20, 0, NOTE, 5, 0);
        Desk.add(x, FIGURE, 8);
        Desk.addLines(x, 3);
        Desk.addPieces(x, NOTE, 1, 0);
        due("page 1", x.told(0, 1, 7), 2);
        due("the next paragraph on page 1", x.told(1, 0, 7), 3);
        due("its line on page 2", x.told(1, 2, 5), 2);
        due("anew within a paragraph", x.told(1, 2, 7), 1);
        due("behind a page without notes", x.told(4, 0, 5), 4);
        due("anew there", x.told(4, 0, 7), 1);
        Desk.read(x, "page 8 by 20;notes on;");
        due("notes on", x.told(4, 0, 7), 5);
    }

    static void saidByFigures() {
        Desk.sentence("FORM: 0 figures: as many letters as it has figures");
        NumberedText x = chapters("figures");
        int[] edges = {1, 1, 9, 1, 10, 2, 11, 2, 60, 2};
        dueSaid(x, edges);
    }

    private static NumberedText chapters(String form) {
        NumberedText x = Desk.styled("level 1 " + form + ";");
        for (int n = 1; n <= 60; n++) {
            x.put(n - 1, HEADING, 1);
        }
        return x;
    }

    private static void dueSaid(NumberedText x, int... countsAndLetters) {
        for (int k = 0; k + 1 < countsAndLetters.length; k += 2) {
            due("said of " + countsAndLetters[k], x.about(countsAndLetters[k] - 1, 6), countsAndLetters[k + 1]);
        }
    }

    static void saidByLetters() {
        Desk.sentence("1 letters (a .. z, aa, ab ..): as many letters");
        dueSaid(chapters("letters"), 1, 1, 2, 1, 25, 1, 26, 1, 27, 2, 28, 2, 52, 2, 53, 2, 60, 2);
    }

    static void saidByRoman() {
        Desk.sentence("2 Roman (i, v, x, l, c): likewise");
        NumberedText x = chapters("roman");
        int[] ones = {0, 1, 2, 3, 2, 1, 2, 3, 4, 2};
        int[] tens = {0, 1, 2, 3, 2, 1, 2};
        for (int n = 1; n <= 60; n++) {
            dueSaid(x, n, tens[n / 10] + ones[n % 10]);
        }
    }

    static void saidOfZero() {
        Desk.sentence("n 0: 1");
        for (String form : new String[] {"figures", "letters", "roman"}) {
            NumberedText x = Desk.styled("level 1 " + form + ";level 2 " + form + ";figures anew;");
            Desk.add(x, HEADING, 3);
            due("0.0.1 by " + form, x.about(0, 6), 5);
            Desk.add(x, FIGURE, 1);
            due("0.1 by " + form, x.about(1, 6), 3);
        }
    }

    static void saidOfAHeading() {
        Desk.sentence("SAID of a HEADING: the count of its LEVEL by the FORM of that LEVEL");
        NumberedText x = Desk.styled("level 1 roman;level 2 letters;level 3 figures;level 4 roman;");
        for (int level = 1; level <= 4; level++) {
            for (int n = 0; n < 8; n++) {
                Desk.add(x, HEADING, level);
            }
        }
        due("viii", x.about(7, 6), 4);
        due("h", x.about(15, 6), 1);
        due("8", x.about(23, 6), 1);
        due("viii", x.about(31, 6), 4);
    }

    static void saidLong() {
        Desk.sentence("with LONG also those of LEVELS ahead of it, each by its FORM, and 1 for each point between");
        NumberedText x = Desk.styled("level 1 roman long;level 2 letters long;level 3 figures;level 4 roman long;");
        for (int level = 1; level <= 4; level++) {
            for (int n = 0; n < 3; n++) {
                Desk.add(x, HEADING, level);
            }
        }
        due("iii", x.about(2, 6), 3);
        due("iii.c", x.about(5, 6), 5);
        due("3, not long", x.about(8, 6), 1);
        due("iii.c.3.iii", x.about(11, 6), 11);
        due("iii.c.3.i", x.about(9, 6), 9);
    }

    static void saidOfAFigure() {
        Desk.sentence("SAID of a FIGURE, a TABLE: its count by figures");
        for (int kind : new int[] {FIGURE, TABLE}) {
            NumberedText x = Desk.styled("level 1 roman;");
            Desk.add(x, HEADING, 1);
            for (int n = 1; n <= 10; n++) {
                Desk.add(x, kind, 1);
            }
            due("3", x.about(3, 6), 1);
            due("9", x.about(9, 6), 1);
            due("10", x.about(10, 6), 2);
        }
    }

    static void saidOfAFigureAnew() {
        Desk.sentence("if they begin anew, also what LEVEL 1's count is SAID by its FORM, and 1");
        for (int kind : new int[] {FIGURE, TABLE}) {
            NumberedText x = Desk.styled("level 1 roman;level 2 letters;level 3 letters;figures anew;");
            Desk.add(x, kind, 1);
            Desk.add(x, HEADING, 1);
            Desk.add(x, HEADING, 1);
            Desk.add(x, HEADING, 1);
            Desk.add(x, HEADING, 2);
            for (int n = 1; n <= 10; n++) {
                Desk.add(x, kind, 1);
            }
            due("0.1", x.about(0, 6), 3);
            due("iii.1", x.about(5, 6), 5);
            due("iii.9", x.about(13, 6), 5);
            due("iii.10", x.about(14, 6), 6);
        }
    }

    static void saidOfAParagraph() {
        Desk.sentence("SAID of a PARAGRAPH, a LIST: that of its SECTION's HEADING; of NONE: 1");
        for (int kind : new int[] {PARAGRAPH, HEADINGS, FIGURES, TABLES}) {
            NumberedText x = Desk.styled("level 2 roman long;figures anew;");
            Desk.add(x, kind, 1);
            Desk.add(x, HEADING, 2);
            Desk.add(x, HEADING, 2);
            Desk.add(x, HEADING, 2);
            Desk.add(x, kind, 1);
            due("of NONE", x.about(0, 6), 1);
            due("0.iii", x.about(4, 6), 5);
        }
    }

    // ---- promises 1 to 11

    static void aNewObject() {
        Desk.sentence("NumberedText(): No ITEMS; THE STYLE as at first");
        NumberedText x = new NumberedText();
        for (int what = 0; what <= 9; what++) {
            due("count(" + what + ")", x.count(what), 0);
        }
        Desk.dueStyle(x, 20, 40, 0, 0, 0, 0, 1, 1, 1, 1, 0, 0, 0);
        due("about(0, 0)", x.about(0, 0), UNKNOWN);
        for (int v = 0; v < 3; v++) {
            due("back(" + v + ")", x.back(v), UNKNOWN);
            due("beside(" + v + ", 0)", x.beside(v, 0), UNKNOWN);
        }
    }

    static void putAtAPlace() {
        Desk.sentence("An ITEM of a KIND is put in at place i (0 .. ITEMS)");
        NumberedText x = new NumberedText();
        for (int i : new int[] {LEAST, -1, 1, 60, MOST}) {
            due("put at " + i + " of nothing", x.put(i, PARAGRAPH, 0), OUTSIDE);
        }
        due("put at 0 of nothing", x.put(0, PARAGRAPH, 0), 0);
        due("put at the end", x.put(1, PARAGRAPH, 0), 1);
        due("put at the start", x.put(0, PARAGRAPH, 0), 2);
        due("put within", x.put(1, PARAGRAPH, 0), 3);
        due("put ahead of the last", x.put(3, PARAGRAPH, 0), 4);
        Desk.dueNames(x, 2, 3, 0, 4, 1);
        for (int i : new int[] {LEAST, -1, 6, 7, 60, MOST}) {
            due("put at " + i + " of five", x.put(i, PARAGRAPH, 0), OUTSIDE);
        }
        Desk.dueNames(x, 2, 3, 0, 4, 1);
    }

    static void putWhereAIsNotLookedAt() {
        Desk.sentence("a: LEVEL (KIND 0, 4), lines (2, 3); of others it is not looked at");
        for (int kind : new int[] {PARAGRAPH, FIGURES, TABLES}) {
            NumberedText x = new NumberedText();
            int name = 0;
            for (int a : new int[] {LEAST, -1, 0, 1, 5, 9, MOST}) {
                due("a = " + a + " of kind " + kind, x.put(0, kind, a), name);
                due("about(0, 2)", x.about(0, 2), 0);
                name++;
            }
        }
    }

    static void cutItsName() {
        Desk.sentence("The ITEM at place i is cut: its NAME");
        NumberedText x = withParagraphs(5);
        due("the first", x.cut(0), 0);
        Desk.dueNames(x, 1, 2, 3, 4);
        due("the last", x.cut(3), 4);
        Desk.dueNames(x, 1, 2, 3);
        due("one within", x.cut(1), 2);
        Desk.dueNames(x, 1, 3);
        due("the first", x.cut(0), 1);
        due("the only one", x.cut(0), 3);
        due("items", x.count(0), 0);
        due("pages", x.set(3), 0);
    }

    static void cutUnknown() {
        Desk.sentence("cut: UNKNOWN");
        due("of nothing", new NumberedText().cut(0), UNKNOWN);
        NumberedText x = withParagraphs(3);
        for (int i : NO_PLACES_OF_THREE) {
            due("cut(" + i + ")", x.cut(i), UNKNOWN);
        }
        x.cut(2);
        due("the place that it had", x.cut(2), UNKNOWN);
        Desk.dueNames(x, 0, 1);
    }

    static void cutTakesMarkAndPieces() {
        Desk.sentence("The ITEM at place i is cut (with its MARK and PIECES)");
        NumberedText x = withParagraphs(1);
        x.mark(0, 3);
        x.piece(0, NOTE, 5, 0);
        x.piece(0, CALL, 3, 0);
        x.cut(0);
        due("means", x.means(3), NONE);
        x.put(0, PARAGRAPH, 0);
        due("mark", x.about(0, 3), NONE);
        due("pieces", x.about(0, 4), 0);
        due("all pieces", x.count(2), 0);
        due("notes", x.count(9), 0);
    }

    static void moveToEachPlace() {
        Desk.sentence("The ITEM at place i is moved so that it has place j then: 1");
        for (int i = 0; i < 4; i++) {
            for (int j = 0; j < 4; j++) {
                NumberedText x = withParagraphs(4);
                due("move(" + i + ", " + j + ")", x.move(i, j), 1);
                due("it has place j", x.about(j, 0), i);
                int other = 0;
                for (int place = 0; place < 4; place++) {
                    if (place != j) {
                        other += other == i ? 1 : 0;
                        due("the others keep their order", x.about(place, 0), other);
                        other++;
                    }
                }
            }
        }
        NumberedText one = withParagraphs(1);
        due("the only one", one.move(0, 0), 1);
    }

    static void moveUnknown() {
        Desk.sentence("move: UNKNOWN (both)");
        due("of nothing", new NumberedText().move(0, 0), UNKNOWN);
        NumberedText x = withParagraphs(3);
        for (int i : NO_PLACES_OF_THREE) {
            due("move(" + i + ", 0)", x.move(i, 0), UNKNOWN);
            due("move(0, " + i + ")", x.move(0, i), UNKNOWN);
            due("move(" + i + ", " + i + ")", x.move(i, i), UNKNOWN);
        }
        Desk.dueNames(x, 0, 1, 2);
    }

    static void markWhatItWas() {
        Desk.sentence("MARK of the ITEM at place i becomes m (NONE: none): what it was");
        NumberedText x = withParagraphs(2);
        due("at first", x.mark(0, 0), NONE);
        due("0", x.mark(0, 0), 0);
        due("0", x.mark(0, 99), 0);
        due("99", x.mark(0, NONE), 99);
        due("none", x.mark(0, NONE), NONE);
        due("the other one", x.mark(1, 4), NONE);
        due("none", x.mark(0, 4), NONE);
        due("both have it", x.count(5), 1);
    }

    static void markUnknown() {
        Desk.sentence("mark: UNKNOWN, OUTSIDE");
        NumberedText x = withParagraphs(3);
        for (int i : NO_PLACES_OF_THREE) {
            due("mark(" + i + ", 0)", x.mark(i, 0), UNKNOWN);
            due("mark(" + i + ", 100)", x.mark(i, 100), UNKNOWN);
        }
        due("mark(2, 100)", x.mark(2, 100), OUTSIDE);
        due("mark(2, -2)", x.mark(2, -2), OUTSIDE);
        due("means(0)", x.means(0), NONE);
    }

    static void pieceOfAnItem() {
        Desk.sentence("piece: UNKNOWN, OUTSIDE, NOT: it is no PARAGRAPH; FULL");
        NumberedText x = withParagraphs(3);
        for (int i : NO_PLACES_OF_THREE) {
            due("piece at " + i, x.piece(i, WORD, 1, 0), UNKNOWN);
            due("UNKNOWN ahead of OUTSIDE", x.piece(i, 3, 1, 0), UNKNOWN);
        }
        for (int kind = 0; kind <= 6; kind++) {
            NumberedText y = new NumberedText();
            y.put(0, kind, 1);
            for (int sort = 0; sort <= 2; sort++) {
                int want = kind == PARAGRAPH ? sort + 1 : NOT;
                due("a piece of an item of kind " + kind, y.piece(0, sort, 1, 0), want);
            }
            due("OUTSIDE ahead of NOT", y.piece(0, WORD, 0, 0), OUTSIDE);
            due("pieces", y.about(0, 4), kind == PARAGRAPH ? 3 : 0);
        }
    }

    static void dropTheLast() {
        Desk.sentence("The last PIECE of the PARAGRAPH at place i is taken out: how many are left");
        NumberedText x = withParagraphs(2);
        for (int k = 0; k < 20; k++) {
            x.piece(1, WORD, k + 1, 0);
        }
        for (int left = 19; left >= 0; left--) {
            due("drop", x.drop(1), left);
            due("the one dropped", x.told(1, left, 0), UNKNOWN);
            if (left > 0) {
                due("the last one left", x.told(1, left - 1, 1), left);
            }
        }
        due("pieces", x.about(1, 4), 0);
    }

    static void droppedItIsSetNoMore() {
        Desk.sentence("The last PIECE of the PARAGRAPH at place i is taken out (what is SET then is SET without it)");
        NumberedText x = withParagraphs(1);
        x.mark(0, 1);
        x.piece(0, WORD, 20, 0);
        x.piece(0, WORD, 19, 0);
        x.piece(0, CALL, 1, NUMBER);
        due("said with 1 letter in round 1", x.set(1), 1);
        due("lines", x.page(0, 1), 2);
        x.drop(0);
        due("settled with round 0", x.set(1), 0);
        due("lines", x.page(0, 1), 1);
        x.drop(0);
        x.drop(0);
        due("settled with round 0", x.set(1), 0);
        due("lines", x.page(0, 1), 0);
    }

    static void dropNot() {
        Desk.sentence("drop: UNKNOWN, NOT: it is none, or has none");
        NumberedText x = withParagraphs(3);
        for (int i : NO_PLACES_OF_THREE) {
            due("drop(" + i + ")", x.drop(i), UNKNOWN);
        }
        due("it has none", x.drop(0), NOT);
        for (int kind = 0; kind <= 6; kind++) {
            NumberedText y = new NumberedText();
            y.put(0, kind, 1);
            due("drop of kind " + kind, y.drop(0), NOT);
        }
        x.piece(0, WORD, 1, 0);
        due("it has one", x.drop(0), 0);
        due("it has none", x.drop(0), NOT);
    }

    static void aboutWhat() {
        Desk.sentence("about: what = 0 NAME .. 7 its count; UNKNOWN, OUTSIDE");
        NumberedText x = withParagraphs(3);
        for (int what : new int[] {LEAST, -1, 8, MOST}) {
            due("about(0, " + what + ")", x.about(0, what), OUTSIDE);
            due("about(3, " + what + ")", x.about(3, what), UNKNOWN);
        }
        for (int i : NO_PLACES_OF_THREE) {
            for (int what = 0; what <= 7; what++) {
                due("about(" + i + ", " + what + ")", x.about(i, what), UNKNOWN);
            }
        }
    }

    static void aboutItsA() {
        Desk.sentence("2 a (LEVEL, lines; 0 of others), 7 its count (.. 0 but of KINDS 0, 2, 3)");
        NumberedText x = new NumberedText();
        for (int kind = 0; kind <= 6; kind++) {
            Desk.add(x, kind, 3);
        }
        int[] a = {3, 0, 3, 3, 3, 0, 0};
        int[] count = {1, 0, 1, 1, 0, 0, 0};
        for (int i = 0; i < 7; i++) {
            due("about(" + i + ", 2)", x.about(i, 2), a[i]);
            due("about(" + i + ", 7)", x.about(i, 7), count[i]);
        }
    }

    static void numberOfLevels() {
        Desk.sentence("Count k (LEVELS 1 to 4) of the NUMBER; NONE: the row is not so long; UNKNOWN, OUTSIDE");
        NumberedText x = withParagraphs(3);
        for (int k : new int[] {LEAST, -1, 0, 5, MOST}) {
            due("number(0, " + k + ")", x.number(0, k), OUTSIDE);
            due("number(3, " + k + ")", x.number(3, k), UNKNOWN);
        }
        for (int i : NO_PLACES_OF_THREE) {
            due("number(" + i + ", 1)", x.number(i, 1), UNKNOWN);
        }
        dueRow(x, 2, 0);
        for (int level = 1; level <= 4; level++) {
            int i = Desk.add(x, HEADING, level);
            due("count of its own level", x.number(i, level), 1);
            if (level < 4) {
                due("the row is not so long", x.number(i, level + 1), NONE);
            }
        }
    }

    static void toldOfNoPiece() {
        Desk.sentence("told: Of PIECE k of the PARAGRAPH at place i; UNKNOWN, OUTSIDE");
        NumberedText x = withParagraphs(3);
        due("it has no piece", x.told(1, 0, 0), UNKNOWN);
        x.piece(1, WORD, 1, 0);
        x.piece(1, WORD, 1, 0);
        for (int k : new int[] {LEAST, -1, 2, 19, 20, 21, MOST}) {
            for (int what = -1; what <= 8; what++) {
                due("told(1, " + k + ", " + what + ")", x.told(1, k, what), UNKNOWN);
            }
        }
        for (int i : NO_PLACES_OF_THREE) {
            due("told(" + i + ", 0, 0)", x.told(i, 0, 0), UNKNOWN);
            due("told(" + i + ", 0, 8)", x.told(i, 0, 8), UNKNOWN);
        }
        for (int what : new int[] {LEAST, -1, 8, MOST}) {
            due("told(1, 1, " + what + ")", x.told(1, 1, what), OUTSIDE);
        }
        for (int kind = 0; kind <= 6; kind++) {
            x.put(0, kind, 1);
            due("told of kind " + kind, x.told(0, 0, 0), UNKNOWN);
        }
    }

    static void toldWhatItMeans() {
        Desk.sentence("3 the place of what it MEANS (NONE), 7 the count of a NOTE (0 of others)");
        NumberedText x = withParagraphs(1);
        x.mark(0, 1);
        x.piece(0, WORD, 1, 0);
        x.piece(0, NOTE, 1, 0);
        x.piece(0, CALL, 1, NUMBER);
        x.piece(0, CALL, 2, NUMBER);
        int[] means = {NONE, NONE, 0, NONE};
        int[] count = {0, 1, 0, 0};
        for (int k = 0; k < 4; k++) {
            due("told(0, " + k + ", 3)", x.told(0, k, 3), means[k]);
            due("told(0, " + k + ", 7)", x.told(0, k, 7), count[k]);
        }
    }

    static void toldOfAPieceInTheRoomOfAnother() {
        Desk.sentence("7 the count of a NOTE (0 of others; a WORD, where a NOTE was)");
        NumberedText x = withParagraphs(1);
        x.piece(0, NOTE, 4, 0);
        due("a note", x.told(0, 0, 7), 1);
        for (int kind : new int[] {WORD, CALL}) {
            x.drop(0);
            x.piece(0, kind, 1, 2);
            due("its count", x.told(0, 0, 7), 0);
            due("its lines", x.set(4), 1);
            due("its b", x.told(0, 0, 2), kind == CALL ? 2 : 0);
        }
        x.drop(0);
        x.piece(0, NOTE, 1, 2);
        due("a note again", x.told(0, 0, 7), 1);
        due("its b", x.told(0, 0, 2), 0);
    }

    static void countWhat() {
        Desk.sentence("count: How many: 0 ITEMS .. 9 NOTES; OUTSIDE");
        NumberedText x = new NumberedText();
        for (int what : new int[] {LEAST, -1, 10, 11, MOST}) {
            due("count(" + what + ")", x.count(what), OUTSIDE);
        }
        Desk.addPieces(x, WORD, 1, 0, CALL, 1, 0, CALL, 2, 0, CALL, 3, 0, NOTE, 1, 0, NOTE, 2, 0);
        Desk.add(x, FIGURE, 1);
        x.mark(0, 1);
        x.feed(8, 0);
        int[] all = {2, 2, 6, 3, 2, 0, 1, 0, 8, 2};
        for (int what = 0; what <= 9; what++) {
            due("count(" + what + ")", x.count(what), all[what]);
        }
    }

    static void countMarksToldTwice() {
        Desk.sentence("5 MARKS that more than one ITEM has");
        NumberedText x = withParagraphs(6);
        x.mark(0, 0);
        x.mark(1, 99);
        due("each once", x.count(5), 0);
        x.mark(2, 0);
        due("0 twice", x.count(5), 1);
        x.mark(3, 0);
        due("0 three times", x.count(5), 1);
        x.mark(5, 99);
        due("99 twice, too", x.count(5), 2);
        x.mark(1, NONE);
        due("99 once", x.count(5), 1);
        x.mark(5, NONE);
        due("NONE is no mark", x.count(5), 1);
        x.cut(0);
        x.cut(1);
        due("0 once", x.count(5), 0);
    }
}
