/** Boundary cases of the document's part 4 and of the promises 18 to 24, a test for each sentence. */
public final class BoundsOfCallsTest {
    private static final int NONE = Desk.NONE, UNKNOWN = Desk.UNKNOWN, OUTSIDE = Desk.OUTSIDE;
    private static final int HEADING = Desk.HEADING, PARAGRAPH = Desk.PARAGRAPH, FIGURE = Desk.FIGURE,
            TABLE = Desk.TABLE, HEADINGS = Desk.HEADINGS, FIGURES = Desk.FIGURES;
    private static final int WORD = Desk.WORD, CALL = Desk.CALL, NOTE = Desk.NOTE;
    private static final int NUMBER = Desk.NUMBER, PAGE = Desk.PAGE, PLACE = Desk.PLACE;
    private static final int LEAST = Desk.LEAST, MOST = Desk.MOST;

    public static void main(String[] args) throws IllegalAccessException {
        Desk.runAll(BoundsOfCallsTest.class);
    }

    private static void due(String call, int got, int want) {
        Desk.due(call, got, want);
    }

    private static void dueBeside(NumberedText x, int v, int... all) {
        for (int what = 0; what <= 4; what++) {
            due("beside(" + v + ", " + what + ")", x.beside(v, what), all[what]);
        }
    }

    // ---- calls

    static void meansOutside() {
        Desk.sentence("What MARK m MEANS: its place; NONE. OUTSIDE");
        NumberedText x = new NumberedText();
        for (int m : new int[] {LEAST, -2, -1, 100, MOST}) {
            due("means(" + m + ")", x.means(m), OUTSIDE);
        }
        due("means(0)", x.means(0), NONE);
        due("means(99)", x.means(99), NONE);
        Desk.add(x, PARAGRAPH, 0);
        due("items without marks: means(-1)", x.means(-1), OUTSIDE);
        Desk.add(x, PARAGRAPH, 0);
        x.mark(1, 0);
        due("means(0)", x.means(0), 1);
        x.mark(1, 99);
        due("means(99)", x.means(99), 1);
        due("means(0)", x.means(0), NONE);
        x.cut(1);
        due("means(99)", x.means(99), NONE);
    }

    static void calledHowOften() {
        Desk.sentence("How many CALLS MEAN the ITEM at place i. UNKNOWN");
        NumberedText x = new NumberedText();
        due("of nothing", x.called(0), UNKNOWN);
        Desk.add(x, FIGURE, 1);
        Desk.add(x, FIGURE, 1);
        due("without a mark", x.called(0), 0);
        x.mark(0, 0);
        x.mark(1, 0);
        due("without calls", x.called(0), 0);
        Desk.addPieces(x, CALL, 0, NUMBER, WORD, 1, 0, NOTE, 1, 0, CALL, 0, PAGE, CALL, 1, PLACE);
        Desk.addPieces(x, CALL, 0, PLACE);
        due("three", x.called(0), 3);
        due("the second one with the mark", x.called(1), 0);
        x.mark(2, 1);
        due("itself", x.called(2), 1);
        x.move(3, 0);
        due("called from the first item, too", x.called(1), 3);
        x.move(0, 3);
        for (int i : new int[] {LEAST, -1, 4, 59, 60, MOST}) {
            due("called(" + i + ")", x.called(i), UNKNOWN);
        }
    }

    static void wordsAndNotesCallNothing() {
        Desk.sentence("a CALL of a MARK (a WORD, a NOTE of as many letters or lines calls nothing)");
        NumberedText x = new NumberedText();
        Desk.add(x, FIGURE, 1);
        x.mark(0, 1);
        Desk.addPieces(x, WORD, 1, 0, NOTE, 1, 0);
        due("called", x.called(0), 0);
        due("calls", x.count(3), 0);
        due("in vain", x.count(4), 0);
        due("lonely", x.count(6), 1);
        due("late", x.count(7), 0);
    }

    static void lonely() {
        Desk.sentence("LONELY is a FIGURE, a TABLE that no CALL MEANS");
        NumberedText x = new NumberedText();
        for (int kind = 0; kind <= 6; kind++) {
            Desk.add(x, kind, 1);
        }
        due("only figures and tables", x.count(6), 2);
        x.piece(1, CALL, 0, NUMBER);
        x.mark(2, 0);
        due("a table", x.count(6), 1);
        x.mark(3, 0);
        due("a mark that another one ahead has", x.count(6), 1);
        x.mark(0, 0);
        due("a heading has it ahead of both", x.count(6), 2);
        x.mark(0, NONE);
        x.mark(2, NONE);
        due("the table has it alone", x.count(6), 1);
        x.drop(1);
        due("no call", x.count(6), 2);
    }

    static void late() {
        Desk.sentence("LATE one whose first CALL (in THE TEXT's order) stands behind it");
        for (int kind : new int[] {FIGURE, TABLE}) {
            NumberedText x = new NumberedText();
            Desk.add(x, kind, 1);
            x.mark(0, 3);
            due("without calls", x.count(7), 0);
            Desk.addPieces(x, WORD, 1, 0, CALL, 3, NUMBER);
            due("called behind it", x.count(7), 1);
            x.put(0, PARAGRAPH, 0);
            x.piece(0, CALL, 3, NUMBER);
            due("called ahead of it and behind", x.count(7), 0);
            x.move(0, 2);
            due("called twice behind it", x.count(7), 1);
            x.move(0, 2);
            due("called twice ahead of it", x.count(7), 0);
        }
    }

    static void onlyFiguresAreLate() {
        Desk.sentence("LATE one (a FIGURE, a TABLE)");
        NumberedText x = new NumberedText();
        for (int kind : new int[] {HEADING, PARAGRAPH, HEADINGS, FIGURES}) {
            int i = Desk.add(x, kind, 1);
            x.mark(i, i);
        }
        Desk.addPieces(x, CALL, 0, 0, CALL, 1, 0, CALL, 2, 0, CALL, 3, 0);
        due("late", x.count(7), 0);
        due("lonely", x.count(6), 0);
    }

    /** Headings at the even places, behind each a paragraph that calls the marks told there; marks are the places. */
    private static NumberedText sections(int[]... calls) {
        NumberedText x = new NumberedText();
        for (int[] called : calls) {
            int heading = Desk.add(x, HEADING, 1);
            x.mark(heading, heading);
            int i = Desk.add(x, PARAGRAPH, 0);
            for (int m : called) {
                x.piece(i, CALL, m, NUMBER);
            }
        }
        return x;
    }

    static void sectionCallsAnother() {
        Desk.sentence("A SECTION CALLS another one, if a CALL in it MEANS an ITEM in that");
        NumberedText x = sections(new int[] {50}, new int[0], new int[0]);
        due("in vain", x.far(0, 2), NONE);
        x.mark(3, 50);
        due("a paragraph in that", x.far(0, 2), 1);
        due("from the paragraph to it", x.far(1, 3), 1);
        due("not the other way", x.far(2, 0), NONE);
        x.mark(1, 50);
        due("the first one has the mark, in the section itself", x.far(0, 2), NONE);
    }

    static void farFewest() {
        Desk.sentence("FAR: the fewest CALLS from SECTION to SECTION");
        NumberedText x = sections(new int[] {2, 4}, new int[] {4}, new int[] {6}, new int[] {0});
        int[][] far = {{0, 1, 1, 2}, {3, 0, 1, 2}, {2, 3, 0, 1}, {1, 2, 2, 0}};
        for (int i = 0; i < 8; i++) {
            for (int j = 0; j < 8; j++) {
                due("far(" + i + ", " + j + ")", x.far(i, j), far[i / 2][j / 2]);
            }
        }
    }

    static void farToItself() {
        Desk.sentence("FAR from the SECTION .. to that of the one at place j (the same one)");
        NumberedText x = sections(new int[] {0}, new int[0]);
        due("that calls itself", x.far(0, 1), 0);
        due("that calls nothing", x.far(2, 3), 0);
        due("the same item", x.far(3, 3), 0);
        x.put(0, FIGURE, 1);
        due("of NONE", x.far(0, 0), 0);
    }

    static void farFromNone() {
        Desk.sentence("FAR (from and to the SECTION of NONE)");
        NumberedText x = sections(new int[0], new int[] {50});
        x.put(0, PARAGRAPH, 0);
        x.piece(0, CALL, 2, NUMBER);
        x.put(1, FIGURE, 1);
        due("from NONE", x.far(0, 4), 1);
        due("to NONE", x.far(4, 0), NONE);
        x.mark(1, 50);
        due("to NONE", x.far(4, 0), 1);
        due("to NONE", x.far(5, 1), 1);
        due("not called", x.far(0, 2), NONE);
    }

    static void farThroughAllSections() {
        Desk.sentence("the fewest CALLS (through as many SECTIONS as there can be)");
        NumberedText x = new NumberedText();
        Desk.addPieces(x, CALL, 1, NUMBER);
        for (int n = 1; n <= 29; n++) {
            x.mark(Desk.add(x, HEADING, 4), n);
            Desk.addPieces(x, CALL, n + 1, NUMBER);
        }
        x.mark(Desk.add(x, HEADING, 1), 30);
        due("far", x.far(0, 59), 30);
        due("far", x.far(59, 0), NONE);
        due("knotted", x.knotted(0), 0);
    }

    static void farUnknown() {
        Desk.sentence("far: NONE. UNKNOWN");
        due("of nothing", new NumberedText().far(0, 0), UNKNOWN);
        NumberedText x = sections(new int[] {0}, new int[0]);
        for (int i : new int[] {LEAST, -1, 4, 59, 60, MOST}) {
            due("far(" + i + ", 0)", x.far(i, 0), UNKNOWN);
            due("far(0, " + i + ")", x.far(0, i), UNKNOWN);
            due("far(" + i + ", " + i + ")", x.far(i, i), UNKNOWN);
        }
        due("not reached", x.far(0, 3), NONE);
    }

    static void knottedUnlike() {
        Desk.sentence("KNOTTED are two unlike SECTIONS, each of which is reached from the other one");
        NumberedText x = sections(new int[] {0}, new int[] {2, 4}, new int[] {2, 6}, new int[0]);
        int[] knotted = {0, 1, 1, 0};
        for (int i = 0; i < 8; i++) {
            due("knotted(" + i + ")", x.knotted(i), knotted[i / 2]);
        }
        x.piece(7, CALL, 2, NUMBER);
        int[] more = {0, 2, 2, 2};
        for (int i = 0; i < 8; i++) {
            due("knotted(" + i + ")", x.knotted(i), more[i / 2]);
        }
    }

    static void knottedUnknown() {
        Desk.sentence("How many SECTIONS are KNOTTED with that of the ITEM at place i. UNKNOWN");
        due("of nothing", new NumberedText().knotted(0), UNKNOWN);
        NumberedText x = sections(new int[] {2}, new int[] {0});
        for (int i : new int[] {LEAST, -1, 4, 59, 60, MOST}) {
            due("knotted(" + i + ")", x.knotted(i), UNKNOWN);
        }
        due("knotted(3)", x.knotted(3), 1);
    }

    static void knottedWithNone() {
        Desk.sentence("KNOTTED are two unlike SECTIONS (one of them that of NONE)");
        NumberedText x = sections(new int[] {50});
        x.put(0, PARAGRAPH, 0);
        x.piece(0, CALL, 0, NUMBER);
        due("NONE calls it", x.knotted(0), 0);
        x.mark(0, 50);
        due("and it calls NONE", x.knotted(0), 1);
        due("and it calls NONE", x.knotted(2), 1);
    }

    static void knottedAll() {
        Desk.sentence("How many SECTIONS are KNOTTED (as many as there can be in a ring)");
        NumberedText x = new NumberedText();
        Desk.addPieces(x, CALL, 1, NUMBER);
        x.mark(0, 30);
        x.put(1, FIGURE, 1);
        for (int n = 1; n <= 29; n++) {
            x.mark(Desk.add(x, HEADING, 1), n);
            Desk.addPieces(x, CALL, n + 1, NUMBER);
        }
        due("items", x.count(0), 60);
        due("knotted", x.knotted(1), 29);
        due("knotted", x.knotted(59), 29);
        x.drop(59);
        due("the ring is open: the first one", x.knotted(0), 0);
        due("one within", x.knotted(30), 0);
        due("the last one", x.knotted(59), 0);
    }

    // ---- versions

    static void versionsZeroToTwo() {
        Desk.sentence("VERSIONS 0 to 2; keep: UNKNOWN");
        NumberedText x = new NumberedText();
        for (int v : new int[] {LEAST, -1, 3, MOST}) {
            due("keep(" + v + ")", x.keep(v), UNKNOWN);
            due("back(" + v + ")", x.back(v), UNKNOWN);
            due("beside(" + v + ", 0)", x.beside(v, 0), UNKNOWN);
        }
        for (int v = 0; v <= 2; v++) {
            Desk.add(x, HEADING, 1);
            due("keep(" + v + ")", x.keep(v), v + 1);
        }
        for (int v = 0; v <= 2; v++) {
            due("back(" + v + ")", x.back(v), v + 1);
            due("items", x.count(0), v + 1);
        }
    }

    static void versionsNotKept() {
        Desk.sentence("back: UNKNOWN (also one that was not kept)");
        for (int kept = 0; kept <= 2; kept++) {
            NumberedText x = new NumberedText();
            Desk.add(x, FIGURE, 2);
            for (int v = 0; v <= 2; v++) {
                due("back(" + v + ")", x.back(v), UNKNOWN);
                due("beside(" + v + ", 0)", x.beside(v, 0), UNKNOWN);
            }
            x.keep(kept);
            for (int v = 0; v <= 2; v++) {
                due("back(" + v + ")", x.back(v), v == kept ? 1 : UNKNOWN);
                due("beside(" + v + ", 0)", x.beside(v, 0), v == kept ? 0 : UNKNOWN);
            }
        }
    }

    static void emptyVersion() {
        Desk.sentence("A VERSION is kept: how many ITEMS it has (none)");
        NumberedText x = new NumberedText();
        due("keep", x.keep(1), 0);
        Desk.add(x, TABLE, 2);
        Desk.read(x, "notes anew;");
        dueBeside(x, 1, 1, 0, 0, 0, 0);
        due("back", x.back(1), 0);
        due("items", x.count(0), 0);
        due("style", x.style(11), 0);
        due("pages", x.set(3), 0);
        dueBeside(x, 1, 0, 0, 0, 0, 0);
    }

    static void fullVersion() {
        Desk.sentence("A VERSION is kept: how many ITEMS it has (60)");
        NumberedText x = new NumberedText();
        for (int i = 0; i < 60; i++) {
            x.put(i, PARAGRAPH, 0);
            x.piece(i, WORD, 1 + i % 20, 0);
        }
        due("keep", x.keep(2), 60);
        for (int i = 0; i < 60; i++) {
            x.cut(0);
        }
        due("beside", x.beside(2, 0), 60);
        due("back", x.back(2), 60);
        for (int i = 0; i < 60; i++) {
            due("name", x.about(i, 0), i);
            due("piece", x.told(i, 0, 1), 1 + i % 20);
        }
    }

    static void versionsKeepAll() {
        Desk.sentence("VERSIONS keep THE TEXT (ITEMS with PIECES, MARKS) and THE STYLE");
        NumberedText x = Desk.styled("page 9 by 11;level 3 roman;figures anew;notes anew;chapters new;");
        Desk.add(x, HEADING, 3);
        Desk.add(x, TABLE, 4);
        Desk.addPieces(x, WORD, 5, 0, CALL, 44, PAGE, NOTE, 3, 0);
        x.mark(0, 44);
        x.keep(0);
        x.mark(0, 45);
        x.drop(2);
        x.drop(2);
        x.piece(2, CALL, 45, PLACE);
        x.move(0, 2);
        x.cut(0);
        Desk.read(x, "");
        due("back", x.back(0), 3);
        Desk.dueStyle(x, 9, 11, 0, 0, 2, 0, 1, 1, 0, 1, 1, 1, 1);
        Desk.dueNames(x, 0, 1, 2);
        int[][] about = {{0, HEADING, 3, 44, 0}, {1, TABLE, 4, NONE, 0}, {2, PARAGRAPH, 0, NONE, 3}};
        for (int i = 0; i < 3; i++) {
            for (int what = 0; what < 5; what++) {
                due("about(" + i + ", " + what + ")", x.about(i, what), about[i][what]);
            }
        }
        int[][] told = {{WORD, 5, 0}, {CALL, 44, PAGE}, {NOTE, 3, 0}};
        for (int k = 0; k < 3; k++) {
            for (int what = 0; what < 3; what++) {
                due("told(2, " + k + ", " + what + ")", x.told(2, k, what), told[k][what]);
            }
        }
    }

    static void versionsStandApart() {
        Desk.sentence("A VERSION is kept (what comes later does not change it)");
        NumberedText x = new NumberedText();
        Desk.addPieces(x, WORD, 3, 0);
        x.keep(0);
        x.piece(0, WORD, 4, 0);
        x.keep(1);
        x.back(0);
        due("pieces", x.about(0, 4), 1);
        x.mark(0, 7);
        x.drop(0);
        x.back(1);
        due("pieces", x.about(0, 4), 2);
        due("mark", x.about(0, 3), NONE);
        x.back(0);
        due("pieces", x.about(0, 4), 1);
        due("its word", x.told(0, 0, 1), 3);
    }

    static void keptAnew() {
        Desk.sentence("A VERSION is kept (one that was kept already)");
        NumberedText x = new NumberedText();
        Desk.addPieces(x, WORD, 3, 0, WORD, 4, 0);
        Desk.add(x, FIGURE, 1);
        due("kept", x.keep(0), 2);
        x.cut(0);
        due("kept anew", x.keep(0), 1);
        dueBeside(x, 0, 0, 0, 0, 0, 0);
        x.cut(0);
        due("back", x.back(0), 1);
        due("it is the later one", x.about(0, 0), 1);
    }

    static void backAndWhatIsSet() {
        Desk.sentence("THE TEXT, THE STYLE become as in a VERSION (what is SET then is SET anew)");
        NumberedText x = Desk.styled("page 8 by 20;");
        Desk.addLines(x, 8);
        Desk.addPieces(x, CALL, 1, PLACE);
        x.mark(0, 1);
        x.keep(0);
        due("pages", x.set(3), 2);
        due("letters", x.told(1, 0, 4), 9);
        x.cut(0);
        due("pages", x.set(3), 1);
        due("letters", x.told(0, 0, 4), 2);
        x.back(0);
        due("pages", x.set(3), 2);
        due("letters", x.told(1, 0, 4), 9);
        due("section", x.far(0, 1), 0);
    }

    static void backAndNames() {
        Desk.sentence("(NAMES given since are not given again.)");
        NumberedText x = new NumberedText();
        Desk.add(x, FIGURE, 1);
        x.keep(0);
        Desk.add(x, FIGURE, 1);
        Desk.add(x, FIGURE, 1);
        x.back(0);
        due("names given", x.count(1), 3);
        due("the next name", x.put(1, FIGURE, 1), 3);
        dueBeside(x, 0, 1, 0, 0, 0, 0);
    }

    static void backWithAllNames() {
        Desk.sentence("THE TEXT, THE STYLE become as in a VERSION (with 200 NAMES)");
        NumberedText x = new NumberedText();
        for (int n = 0; n < 60; n++) {
            x.put(n, FIGURE, 1);
        }
        x.keep(0);
        for (int n = 60; n < 200; n++) {
            x.cut(0);
            x.put(0, TABLE, 1);
        }
        due("all names", x.count(1), 200);
        due("beside", x.beside(0, 0), 2);
        due("back", x.back(0), 60);
        due("names stay given", x.count(1), 200);
        x.cut(0);
        due("no more names", x.put(0, TABLE, 1), Desk.FULL);
    }

    static void backLeavesBytes() {
        Desk.sentence("THE TEXT, THE STYLE become as in a VERSION (the text that is read and its FAULT stay)");
        NumberedText x = new NumberedText();
        x.keep(0);
        Desk.read(x, "notes x");
        Desk.feed(x, "notes anew;");
        x.back(0);
        due("bytes", x.count(8), 11);
        due("fault", x.fault(), 6);
        due("read", x.read(), 1);
        due("notes anew", x.style(11), 1);
        x.back(0);
        due("notes on", x.style(11), 0);
    }

    static void besideWhat() {
        Desk.sentence("beside: what = 0 .. 4; UNKNOWN, OUTSIDE");
        NumberedText x = new NumberedText();
        x.keep(1);
        for (int what : new int[] {LEAST, -1, 5, MOST}) {
            due("beside(1, " + what + ")", x.beside(1, what), OUTSIDE);
            due("beside(0, " + what + ")", x.beside(0, what), UNKNOWN);
            due("beside(3, " + what + ")", x.beside(3, what), UNKNOWN);
        }
        dueBeside(x, 1, 0, 0, 0, 0, 0);
    }

    static void besideInJustOne() {
        Desk.sentence("0 ITEMS in just one of both");
        NumberedText x = new NumberedText();
        for (int n = 0; n < 3; n++) {
            Desk.add(x, PARAGRAPH, 0);
        }
        x.keep(0);
        Desk.add(x, PARAGRAPH, 0);
        due("in the text alone", x.beside(0, 0), 1);
        x.cut(0);
        due("and in the version alone", x.beside(0, 0), 2);
        x.cut(0);
        x.cut(0);
        x.cut(0);
        due("in the version alone", x.beside(0, 0), 3);
        x.back(0);
        due("in both", x.beside(0, 0), 0);
        x.move(0, 2);
        due("moved, it is in both", x.beside(0, 0), 0);
    }

    static void besideNumber() {
        Desk.sentence("ITEMS that are in both with another NUMBER (row of counts; of a FIGURE, a TABLE its count, too)");
        NumberedText x = new NumberedText();
        Desk.add(x, FIGURE, 1);
        Desk.add(x, HEADING, 2);
        Desk.add(x, TABLE, 1);
        Desk.add(x, PARAGRAPH, 0);
        Desk.add(x, FIGURES, 0);
        x.keep(0);
        x.put(1, FIGURE, 1);
        due("no figure of the version stands behind it", x.beside(0, 1), 0);
        x.move(1, 0);
        due("its count", x.beside(0, 1), 1);
        x.back(0);
        x.put(0, TABLE, 1);
        due("the count of the table", x.beside(0, 1), 1);
        x.back(0);
        x.put(1, HEADING, 1);
        due("row 0, 1 becomes 1, 1: heading, table, paragraph, list", x.beside(0, 1), 4);
        x.back(0);
        x.move(1, 4);
        due("table, paragraph, list are of NONE now", x.beside(0, 1), 3);
        x.back(0);
        x.put(4, HEADING, 3);
        due("a longer row", x.beside(0, 1), 1);
    }

    static void besideNumberOfDeepRows() {
        Desk.sentence("with another NUMBER (row of counts: the count of LEVEL 4, the count ahead of all)");
        NumberedText x = new NumberedText();
        Desk.add(x, HEADING, 4);
        Desk.add(x, HEADING, 4);
        Desk.add(x, PARAGRAPH, 0);
        x.keep(0);
        x.move(2, 1);
        due("0, 0, 0, 2 becomes 0, 0, 0, 1", x.beside(0, 1), 1);
        x.back(0);
        x.put(0, HEADING, 1);
        due("0, 0, 0, 2 becomes 1, 0, 0, 2", x.beside(0, 1), 3);
        x.back(0);
        x.move(2, 0);
        due("0, 0, 0, 2 becomes 0", x.beside(0, 1), 1);
    }

    static void besidePage() {
        Desk.sentence("with another PAGE");
        NumberedText x = Desk.styled("page 8 by 20;");
        Desk.addLines(x, 7);
        Desk.addLines(x, 1);
        Desk.add(x, FIGURE, 8);
        x.keep(0);
        x.put(0, PARAGRAPH, 0);
        due("without lines", x.beside(0, 2), 0);
        x.piece(0, WORD, 1, 0);
        due("a line more: the last line, and so the figure", x.beside(0, 2), 2);
        x.back(0);
        Desk.read(x, "page 7 by 20;");
        due("a fault changes nothing", x.beside(0, 2), 0);
        Desk.read(x, "page 20 by 20;");
        due("each by its own style", x.beside(0, 2), 1);
        Desk.read(x, "page 9 by 20;");
        due("each by its own style", x.beside(0, 2), 0);
    }

    static void besideLetters() {
        Desk.sentence("CALLS (of ITEMS in both, PIECE by PIECE of the same place) that are SAID with other letters");
        NumberedText x = new NumberedText();
        Desk.addPieces(x, CALL, 1, NUMBER, CALL, 1, PAGE, CALL, 1, PLACE, WORD, 5, 0);
        int figure = Desk.add(x, FIGURE, 1);
        x.mark(figure, 1);
        x.keep(0);
        x.mark(figure, NONE);
        due("in vain: 2, 2, 2 for 1, 2, 4", x.beside(0, 3), 2);
        x.back(0);
        x.drop(0);
        x.piece(0, WORD, 6, 0);
        due("words are no calls", x.beside(0, 3), 0);
        x.drop(0);
        x.drop(0);
        x.piece(0, WORD, 9, 0);
        due("a call that is a word now", x.beside(0, 3), 0);
        x.back(0);
        x.drop(0);
        x.drop(0);
        x.piece(0, CALL, 1, NUMBER);
        due("a call by another way: 1 for 4", x.beside(0, 3), 1);
        x.drop(0);
        due("a call that is no more", x.beside(0, 3), 0);
        x.back(0);
        x.put(2, PARAGRAPH, 0);
        x.piece(2, CALL, 1, PLACE);
        due("a call of an item in just one", x.beside(0, 3), 0);
    }

    static void besideMeaning() {
        Desk.sentence("or MEAN ITEMS of another NAME");
        NumberedText x = new NumberedText();
        Desk.addPieces(x, CALL, 1, NUMBER, CALL, 2, PAGE, WORD, 1, 0);
        Desk.add(x, FIGURE, 1);
        Desk.add(x, FIGURE, 1);
        x.mark(1, 1);
        x.mark(2, 2);
        x.keep(0);
        x.move(1, 2);
        due("moved, it means the same", x.beside(0, 4), 0);
        x.mark(0, 1);
        due("one means another", x.beside(0, 4), 1);
        x.mark(0, 2);
        due("the other one does", x.beside(0, 4), 1);
        x.mark(1, 1);
        due("both do", x.beside(0, 4), 2);
        x.back(0);
        x.drop(0);
        x.drop(0);
        x.piece(0, CALL, 1, PAGE);
        due("a call of another mark", x.beside(0, 4), 1);
        x.back(0);
        x.drop(0);
        x.drop(0);
        x.drop(0);
        x.piece(0, CALL, 2, NUMBER);
        due("pieces of the same place", x.beside(0, 4), 1);
    }

    static void besideFewerPieces() {
        Desk.sentence("PIECE by PIECE of the same place (one of both has fewer)");
        NumberedText x = new NumberedText();
        Desk.addPieces(x, CALL, 1, NUMBER, CALL, 1, PLACE, CALL, 1, PLACE);
        x.mark(0, 1);
        x.keep(0);
        x.drop(0);
        x.drop(0);
        dueBeside(x, 0, 0, 0, 0, 0, 0);
        x.keep(0);
        x.piece(0, CALL, 2, NUMBER);
        dueBeside(x, 0, 0, 0, 0, 0, 0);
        x.piece(0, CALL, 2, PAGE);
        dueBeside(x, 0, 0, 0, 0, 0, 0);
    }

    static void besideGoesByNames() {
        Desk.sentence("BESIDE a VERSION, by NAMES");
        NumberedText x = Desk.styled("page 8 by 20;");
        Desk.addLines(x, 8);
        Desk.add(x, HEADING, 1);
        Desk.addPieces(x, CALL, 1, PLACE);
        x.mark(1, 1);
        x.keep(0);
        x.move(0, 2);
        dueBeside(x, 0, 0, 1, 2, 0, 0);
        due("the lines begin behind them", x.page(2, 0), 1);
        due("their section is the heading's now", x.number(2, 1), 1);
        x.back(0);
        x.cut(0);
        x.put(0, PARAGRAPH, 0);
        dueBeside(x, 0, 2, 0, 2, 0, 0);
    }
}
