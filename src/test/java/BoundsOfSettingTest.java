/** Boundary cases of the document's part 3 and of the promises 12 to 17, a test for each sentence. */
public final class BoundsOfSettingTest {
    private static final int NONE = Desk.NONE, UNKNOWN = Desk.UNKNOWN, OUTSIDE = Desk.OUTSIDE, NOT = Desk.NOT;
    private static final int HEADING = Desk.HEADING, PARAGRAPH = Desk.PARAGRAPH, FIGURE = Desk.FIGURE,
            TABLE = Desk.TABLE, HEADINGS = Desk.HEADINGS, FIGURES = Desk.FIGURES, TABLES = Desk.TABLES;
    private static final int WORD = Desk.WORD, CALL = Desk.CALL, NOTE = Desk.NOTE;
    private static final int NUMBER = Desk.NUMBER, PAGE = Desk.PAGE, PLACE = Desk.PLACE;
    private static final int LEAST = Desk.LEAST, MOST = Desk.MOST;
    private static final int SETTLED = 0, GOES_ROUND = 1, OPEN = 2;

    public static void main(String[] args) throws IllegalAccessException {
        Desk.runAll(BoundsOfSettingTest.class);
    }

    private static void due(String call, int got, int want) {
        Desk.due(call, got, want);
    }

    private static void dueUsed(NumberedText x, int... used) {
        due("pages", x.set(3), used.length);
        for (int p = 1; p <= used.length; p++) {
            due("used(" + p + ")", x.used(p), used[p - 1]);
        }
    }

    /** On which pages the items begin. */
    private static void duePages(NumberedText x, int... pages) {
        for (int i = 0; i < pages.length; i++) {
            due("page(" + i + ", 0)", x.page(i, 0), pages[i]);
        }
    }

    private static void dueLines(NumberedText x, int i, int... lines) {
        for (int k = 0; k < lines.length; k++) {
            due("line of piece " + k, x.told(i, k, 6), lines[k]);
        }
        due("lines", x.page(i, 1), lines.length == 0 ? 0 : lines[lines.length - 1] + 1);
    }

    // ---- lines

    static void pageAtFirst() {
        Desk.sentence("A PAGE has H LINES (.. 20 at first) of W letters (.. 40)");
        NumberedText x = new NumberedText();
        Desk.addLines(x, 20);
        Desk.addPieces(x, WORD, 20, 0, WORD, 19, 0, WORD, 20, 0, WORD, 20, 0);
        dueUsed(x, 20, 3);
        dueLines(x, 1, 0, 0, 1, 2);
    }

    static void leastAndMostPage() {
        Desk.sentence("A PAGE has H LINES (8 .. 60) of W letters (10 .. 90)");
        NumberedText x = Desk.styled("page 8 by 10;");
        Desk.addPieces(x, WORD, 5, 0, WORD, 4, 0, WORD, 5, 0, WORD, 5, 0);
        dueLines(x, 0, 0, 0, 1, 2);
        Desk.addLines(x, 6);
        dueUsed(x, 8, 1);
        NumberedText y = Desk.styled("page 60 by 90;");
        Desk.addPieces(y, WORD, 20, 0, WORD, 20, 0, WORD, 20, 0, WORD, 20, 0, WORD, 6, 0, WORD, 1, 0);
        dueLines(y, 0, 0, 0, 0, 0, 0, 1);
        for (int n = 0; n < 7; n++) {
            Desk.add(y, FIGURE, 8);
        }
        Desk.add(y, FIGURE, 2);
        dueUsed(y, 60);
        Desk.add(y, FIGURE, 1);
        dueUsed(y, 60, 1);
    }

    static void pagesGoFromOne() {
        Desk.sentence("PAGES go from 1");
        NumberedText x = new NumberedText();
        Desk.addPieces(x, WORD, 1, 0);
        due("page of the item", x.page(0, 0), 1);
        due("page of the piece", x.told(0, 0, 5), 1);
        due("used(0)", x.used(0), UNKNOWN);
        due("used(1)", x.used(1), 1);
        due("pages", x.set(3), 1);
    }

    static void theFirstPieceBeginsALine() {
        Desk.sentence("the first one begins a LINE");
        NumberedText x = Desk.styled("page 8 by 10;");
        Desk.addPieces(x, WORD, 20, 0);
        dueLines(x, 0, 0);
        Desk.addPieces(x, NOTE, 1, 0);
        dueLines(x, 1, 0);
        Desk.addPieces(x, WORD, 10, 0);
        dueLines(x, 2, 0);
        Desk.addPieces(x, WORD, 11, 0, WORD, 11, 0);
        dueLines(x, 3, 0, 1);
    }

    static void piecesThatGoOn() {
        Desk.sentence("each other one goes on it, if the letters there, a blank, and its own are W or fewer");
        for (int letters = 1; letters <= 12; letters++) {
            NumberedText x = Desk.styled("page 8 by 12;");
            Desk.addPieces(x, WORD, 4, 0, WORD, letters, 0);
            dueLines(x, 0, 0, letters <= 7 ? 0 : 1);
        }
        NumberedText y = Desk.styled("page 8 by 12;");
        Desk.addPieces(y, WORD, 2, 0, WORD, 2, 0, WORD, 2, 0, WORD, 3, 0, WORD, 1, 0, WORD, 9, 0, WORD, 1, 0);
        dueLines(y, 0, 0, 0, 0, 0, 1, 1, 2);
    }

    static void noBlankAheadOfANote() {
        Desk.sentence("a blank (none ahead of a NOTE)");
        NumberedText x = Desk.styled("page 8 by 10;");
        Desk.addPieces(x, WORD, 9, 0, NOTE, 1, 0);
        dueLines(x, 0, 0, 0);
        Desk.addPieces(x, WORD, 10, 0, NOTE, 1, 0);
        dueLines(x, 1, 0, 1);
        Desk.addPieces(x, WORD, 7, 0, NOTE, 1, 0, NOTE, 1, 0, NOTE, 1, 0, NOTE, 1, 0);
        dueLines(x, 2, 0, 0, 0, 0, 1);
        Desk.addPieces(x, NOTE, 1, 0, WORD, 8, 0);
        dueLines(x, 3, 0, 0);
        Desk.addPieces(x, NOTE, 1, 0, WORD, 9, 0);
        dueLines(x, 4, 0, 1);
        Desk.addPieces(x, WORD, 7, 0, CALL, 50, 0);
        dueLines(x, 5, 0, 0);
        Desk.addPieces(x, WORD, 8, 0, CALL, 50, 0);
        dueLines(x, 6, 0, 1);
    }

    static void elseANewLine() {
        Desk.sentence("else it begins a new one");
        NumberedText x = Desk.styled("page 8 by 10;");
        Desk.addPieces(x, WORD, 20, 0, NOTE, 1, 0, WORD, 20, 0, WORD, 1, 0, WORD, 8, 0, NOTE, 1, 0);
        dueLines(x, 0, 0, 1, 2, 3, 3, 4);
    }

    static void noPiecesNoLines() {
        Desk.sentence("(One without PIECES has no LINES.)");
        NumberedText x = new NumberedText();
        Desk.add(x, PARAGRAPH, 0);
        due("lines", x.page(0, 1), 0);
        dueUsed(x, 0);
        x.piece(0, WORD, 1, 0);
        due("lines", x.page(0, 1), 1);
        dueUsed(x, 1);
        x.drop(0);
        due("lines", x.page(0, 1), 0);
        dueUsed(x, 0);
    }

    // ---- pages

    static void newPageBeginsWithThoseThatWait() {
        Desk.sentence("A NEW PAGE begins with FIGURES and TABLES that WAIT, in their order, as long as the next one fits");
        NumberedText x = Desk.styled("page 10 by 20;");
        Desk.addLines(x, 9);
        Desk.add(x, FIGURE, 4);
        Desk.add(x, TABLE, 6);
        Desk.add(x, TABLE, 1);
        Desk.add(x, FIGURE, 8);
        Desk.add(x, FIGURE, 3);
        Desk.add(x, TABLE, 2);
        duePages(x, 1, 2, 2, 3, 3, 4, 4);
        dueUsed(x, 9, 10, 9, 5);
        NumberedText y = Desk.styled("page 10 by 20;");
        Desk.addLines(y, 9);
        Desk.add(y, FIGURE, 5);
        Desk.add(y, FIGURE, 6);
        Desk.add(y, FIGURE, 1);
        duePages(y, 1, 2, 3, 3);
        dueUsed(y, 9, 5, 7);
    }

    static void headingLines() {
        Desk.sentence("HEADING: 3, 2, 1, 1 LINES for LEVELS 1 to 4");
        int[] lines = {3, 2, 1, 1};
        for (int level = 1; level <= 4; level++) {
            NumberedText x = new NumberedText();
            Desk.add(x, HEADING, level);
            due("lines of level " + level, x.page(0, 1), lines[level - 1]);
            dueUsed(x, lines[level - 1]);
        }
    }

    static void chaptersOnNewPages() {
        Desk.sentence("One of LEVEL 1, if THE STYLE says so, is set on a NEW PAGE (once, if USED is not 0)");
        NumberedText x = Desk.styled("page 20 by 20;chapters new;");
        Desk.add(x, PARAGRAPH, 0);
        Desk.add(x, FIGURES, 0);
        Desk.add(x, HEADING, 1);
        duePages(x, 1, 1, 1);
        Desk.add(x, HEADING, 1);
        Desk.add(x, HEADING, 2);
        Desk.add(x, HEADING, 3);
        Desk.add(x, HEADING, 4);
        Desk.add(x, HEADING, 1);
        duePages(x, 1, 1, 1, 2, 2, 2, 2, 3);
        dueUsed(x, 3, 7, 3);
        Desk.read(x, "page 20 by 20;chapters on;");
        dueUsed(x, 13);
    }

    static void chaptersTurnOnce() {
        Desk.sentence("is set on a NEW PAGE (once ..)");
        NumberedText x = Desk.styled("page 8 by 20;chapters new;");
        Desk.addLines(x, 6);
        Desk.add(x, FIGURE, 3);
        Desk.add(x, HEADING, 1);
        duePages(x, 1, 2, 2);
        dueUsed(x, 6, 6);
        x.cut(1);
        x.put(1, FIGURE, 4);
        duePages(x, 1, 2, 3);
        dueUsed(x, 6, 4, 3);
    }

    static void headingsNeedTwoMore() {
        Desk.sentence("Then, as long as USED, its LINES and 2 are above H and USED is not 0: a NEW PAGE");
        int[] lines = {3, 2, 1, 1};
        for (int level = 1; level <= 4; level++) {
            int most = 10 - lines[level - 1] - 2;
            NumberedText fits = Desk.styled("page 10 by 20;");
            Desk.addLines(fits, most);
            Desk.add(fits, HEADING, level);
            duePages(fits, 1, 1);
            NumberedText turns = Desk.styled("page 10 by 20;");
            Desk.addLines(turns, most + 1);
            Desk.add(turns, HEADING, level);
            duePages(turns, 1, 2);
            dueUsed(turns, most + 1, lines[level - 1]);
        }
    }

    static void headingsWaitForThoseThatWait() {
        Desk.sentence("as long as USED, its LINES and 2 are above H (behind FIGURES that WAIT)");
        NumberedText x = Desk.styled("page 8 by 20;");
        Desk.addLines(x, 6);
        Desk.add(x, FIGURE, 8);
        Desk.add(x, FIGURE, 7);
        Desk.add(x, FIGURE, 4);
        Desk.add(x, HEADING, 2);
        duePages(x, 1, 2, 3, 4, 4);
        dueUsed(x, 6, 8, 7, 6);
        x.cut(4);
        Desk.add(x, HEADING, 1);
        duePages(x, 1, 2, 3, 4, 5);
        dueUsed(x, 6, 8, 7, 4, 3);
    }

    static void linesNeedOneAndNotes() {
        Desk.sentence("PARAGRAPH: LINE by LINE, each needs 1 and the lines of all NOTES in it");
        NumberedText x = Desk.styled("page 20 by 20;");
        Desk.addPieces(x, WORD, 20, 0, WORD, 10, 0, NOTE, 2, 0, WORD, 3, 0, NOTE, 5, 0, WORD, 20, 0, NOTE, 1, 0);
        dueLines(x, 0, 0, 1, 1, 1, 1, 2, 3);
        dueUsed(x, 1 + 8 + 1 + 2);
    }

    static void linesThatDoNotFit() {
        Desk.sentence("As long as USED and what it needs are above H and USED is not 0: a NEW PAGE");
        for (int ahead = 1; ahead <= 10; ahead++) {
            NumberedText x = Desk.styled("page 10 by 20;");
            Desk.addLines(x, ahead);
            Desk.addPieces(x, WORD, 1, 0, NOTE, 3, 0);
            duePages(x, 1, ahead <= 6 ? 1 : 2);
        }
        NumberedText y = Desk.styled("page 10 by 20;");
        Desk.addLines(y, 10);
        Desk.add(y, FIGURE, 8);
        Desk.add(y, FIGURE, 8);
        Desk.addPieces(y, WORD, 1, 0, NOTE, 2, 0);
        duePages(y, 1, 2, 3, 4);
        dueUsed(y, 10, 8, 8, 3);
    }

    static void setInAnyCaseWhereUsedIsZero() {
        Desk.sentence("(So it is set in any case where USED is 0.)");
        NumberedText x = Desk.styled("page 8 by 20;");
        Desk.addPieces(x, NOTE, 5, 0, NOTE, 5, 0, NOTE, 5, 0);
        duePages(x, 1);
        dueUsed(x, 16);
        Desk.addPieces(x, NOTE, 5, 0, NOTE, 3, 0);
        duePages(x, 1, 2);
        dueUsed(x, 16, 9);
        Desk.addPieces(x, WORD, 1, 0);
        duePages(x, 1, 2, 3);
        dueUsed(x, 16, 9, 1);
    }

    static void theFirstLineWithTheSecond() {
        Desk.sentence("For its first LINE, if there is a second one, what both need together is held against H");
        for (int ahead = 1; ahead <= 10; ahead++) {
            NumberedText x = Desk.styled("page 10 by 20;");
            Desk.addLines(x, ahead);
            Desk.addLines(x, 1);
            duePages(x, 1, ahead <= 9 ? 1 : 2);
            x.piece(1, WORD, 20, 0);
            duePages(x, 1, ahead <= 8 ? 1 : 2);
            x.piece(1, NOTE, 3, 0);
            x.piece(1, WORD, 18, 0);
            dueLines(x, 1, 0, 1, 2, 2);
            duePages(x, 1, ahead <= 8 ? 1 : 2);
            x.cut(1);
            Desk.addPieces(x, WORD, 20, 0, WORD, 10, 0, NOTE, 3, 0);
            duePages(x, 1, ahead <= 5 ? 1 : 2);
        }
    }

    static void otherLinesAlone() {
        Desk.sentence("For its first LINE (the others are held against H alone)");
        for (int ahead = 1; ahead <= 8; ahead++) {
            NumberedText x = Desk.styled("page 10 by 20;");
            Desk.addLines(x, ahead);
            Desk.addLines(x, 3);
            duePages(x, 1, 1);
            due("its last line", x.page(1, 2), ahead <= 7 ? 1 : 2);
        }
    }

    static void firstTwoLinesAboveAPage() {
        Desk.sentence("what both need together is held against H (and USED is not 0)");
        NumberedText x = Desk.styled("page 8 by 20;");
        Desk.addPieces(x, WORD, 1, 0, NOTE, 4, 0, WORD, 20, 0, NOTE, 3, 0);
        dueLines(x, 0, 0, 0, 1, 2);
        dueUsed(x, 6, 4);
        due("the second line", x.told(0, 2, 5), 1);
        due("the third line", x.told(0, 3, 5), 2);
        NumberedText y = Desk.styled("page 8 by 20;");
        Desk.addPieces(y, WORD, 1, 0, NOTE, 4, 0, WORD, 16, 0, WORD, 1, 0, NOTE, 3, 0);
        dueLines(y, 0, 0, 0, 0, 1, 1);
        dueUsed(y, 5, 4);
        y.put(0, HEADING, 3);
        duePages(y, 1, 2);
        dueUsed(y, 1, 5, 4);
    }

    static void figuresThatFit() {
        Desk.sentence("FIGURE, TABLE: if none WAITS, and USED with its lines is H or less, it is set; else it WAITS");
        for (int kind : new int[] {FIGURE, TABLE}) {
            NumberedText x = Desk.styled("page 10 by 20;");
            Desk.addLines(x, 4);
            Desk.add(x, kind, 6);
            dueUsed(x, 10);
            x.cut(1);
            Desk.add(x, kind, 7);
            duePages(x, 1, 2);
            dueUsed(x, 4, 7);
            Desk.add(x, kind, 1);
            duePages(x, 1, 2, 2);
            dueUsed(x, 4, 8);
            Desk.addLines(x, 6);
            duePages(x, 1, 2, 2, 1);
            dueUsed(x, 10, 8);
            Desk.add(x, kind, 2);
            duePages(x, 1, 2, 2, 1, 2);
            dueUsed(x, 10, 10);
        }
    }

    static void figuresOfAWholePage() {
        Desk.sentence("USED with its lines is H or less (a FIGURE of 8 lines on a PAGE of 8)");
        NumberedText x = Desk.styled("page 8 by 20;");
        Desk.add(x, FIGURE, 8);
        Desk.add(x, TABLE, 8);
        Desk.add(x, FIGURE, 8);
        duePages(x, 1, 2, 3);
        dueUsed(x, 8, 8, 8);
    }

    static void listsOfAllTheText() {
        Desk.sentence("LIST: a LINE for each ITEM that it lists (of all THE TEXT)");
        NumberedText x = new NumberedText();
        Desk.add(x, FIGURE, 1);
        Desk.add(x, FIGURES, 0);
        Desk.add(x, TABLES, 0);
        Desk.add(x, HEADINGS, 1);
        due("figures ahead", x.page(1, 1), 1);
        due("no tables", x.page(2, 1), 0);
        due("no headings", x.page(3, 1), 0);
        Desk.add(x, FIGURE, 1);
        Desk.add(x, TABLE, 1);
        Desk.add(x, HEADING, 1);
        Desk.add(x, HEADING, 2);
        due("figures ahead and behind", x.page(1, 1), 2);
        due("tables behind", x.page(2, 1), 1);
        due("headings behind", x.page(3, 1), 1);
        dueUsed(x, 1 + 2 + 1 + 1 + 1 + 1 + 3 + 2);
        x.cut(0);
        due("a figure less", x.page(0, 1), 1);
    }

    static void listsUpToALevel() {
        Desk.sentence("LIST of HEADINGS up to a LEVEL");
        NumberedText x = new NumberedText();
        for (int level = 1; level <= 4; level++) {
            Desk.add(x, HEADINGS, level);
        }
        for (int level = 4; level >= 1; level--) {
            Desk.add(x, HEADING, level);
        }
        for (int level = 1; level <= 4; level++) {
            due("lines of the list up to " + level, x.page(level - 1, 1), level);
            for (int k = 0; k < level; k++) {
                due("the " + k + "-th up to " + level, x.list(level - 1, k), 8 - level + k);
            }
            due("behind them", x.list(level - 1, level), NONE);
        }
    }

    static void listsAreSetAsParagraphs() {
        Desk.sentence("each needs 1, set as LINES of a PARAGRAPH are");
        for (int ahead = 6; ahead <= 8; ahead++) {
            NumberedText x = Desk.styled("page 8 by 20;");
            Desk.addLines(x, ahead);
            Desk.add(x, FIGURES, 0);
            duePages(x, 1, 1);
            Desk.add(x, FIGURE, 8);
            duePages(x, 1, ahead <= 7 ? 1 : 2);
            Desk.add(x, FIGURE, 8);
            duePages(x, 1, ahead <= 6 ? 1 : 2);
            Desk.add(x, FIGURE, 8);
            due("the last line of three", x.page(1, 2), 2);
        }
        NumberedText y = Desk.styled("page 8 by 20;");
        Desk.add(y, TABLES, 0);
        for (int n = 0; n < 9; n++) {
            Desk.add(y, TABLE, 8);
        }
        due("first page", y.page(0, 0), 1);
        due("last page", y.page(0, 2), 2);
        due("the first table", y.page(1, 0), 3);
    }

    static void listsBehindNotesOfALine() {
        Desk.sentence("LIST: each needs 1 (whatever the NOTES of a PARAGRAPH ahead needed)");
        NumberedText x = Desk.styled("page 20 by 20;");
        Desk.addPieces(x, WORD, 20, 0, NOTE, 5, 0);
        Desk.add(x, FIGURES, 0);
        Desk.add(x, FIGURE, 1);
        Desk.add(x, FIGURE, 1);
        dueUsed(x, 1 + 6 + 2 + 2);
    }

    static void atTheEnd() {
        Desk.sentence("At the end: as long as some WAIT: a NEW PAGE");
        NumberedText x = Desk.styled("page 8 by 20;");
        Desk.addLines(x, 1);
        for (int n = 0; n < 4; n++) {
            Desk.add(x, n % 2 == 0 ? FIGURE : TABLE, 8);
        }
        duePages(x, 1, 2, 3, 4, 5);
        dueUsed(x, 1, 8, 8, 8, 8);
        NumberedText y = Desk.styled("page 8 by 20;");
        Desk.addLines(y, 1);
        for (int n = 1; n < 60; n++) {
            Desk.add(y, FIGURE, 8);
        }
        due("as many as can wait", y.set(3), 60);
        due("the last", y.page(59, 0), 60);
        due("nothing waits, no page", Desk.styled("page 8 by 20;").set(3), 0);
    }

    static void linesBehindAllThatWait() {
        Desk.sentence("a NEW PAGE, as long as USED is not 0 (behind 58 FIGURES that WAIT)");
        NumberedText x = Desk.styled("page 8 by 20;");
        Desk.addLines(x, 8);
        for (int n = 0; n < 58; n++) {
            Desk.add(x, FIGURE, 8);
        }
        int last = Desk.addLines(x, 1);
        due("the last figure", x.page(58, 0), 59);
        due("the line", x.page(last, 0), 60);
        due("used", x.set(4), 1);
    }

    static void pageOfAnItem() {
        Desk.sentence("PAGE of an ITEM: that of its first LINE (a FIGURE, a TABLE: where it is set)");
        NumberedText x = Desk.styled("page 8 by 20;");
        Desk.addLines(x, 5);
        Desk.add(x, FIGURE, 4);
        Desk.addLines(x, 5);
        duePages(x, 1, 2, 1);
        due("the page of its last line", x.page(2, 2), 2);
        due("of the figure", x.page(1, 2), 2);
        dueUsed(x, 8, 6);
        Desk.addLines(x, 1);
        Desk.addLines(x, 2);
        duePages(x, 1, 2, 1, 2, 3);
    }

    static void pageOfOneWithoutLines() {
        Desk.sentence("a PARAGRAPH, LIST without LINES: the PAGE as it is then");
        for (int kind : new int[] {PARAGRAPH, HEADINGS, FIGURES, TABLES}) {
            NumberedText x = Desk.styled("page 8 by 20;");
            Desk.add(x, kind, 1);
            Desk.addLines(x, 8);
            Desk.add(x, kind, 1);
            Desk.addLines(x, 1);
            Desk.add(x, kind, 1);
            duePages(x, 1, 1, 1, 2, 2);
            for (int i = 0; i < 5; i += 2) {
                due("lines", x.page(i, 1), 0);
                due("last page", x.page(i, 2), x.page(i, 0));
            }
        }
    }

    static void pageOfAPiece() {
        Desk.sentence("PAGE of a PIECE: that of its LINE");
        NumberedText x = Desk.styled("page 8 by 20;");
        Desk.addLines(x, 5);
        Desk.addPieces(x, WORD, 9, 0, WORD, 9, 0, WORD, 20, 0, WORD, 20, 0, WORD, 18, 0, NOTE, 1, 0);
        int[] pages = {1, 1, 1, 1, 2, 2};
        for (int k = 0; k < pages.length; k++) {
            due("page of piece " + k, x.told(1, k, 5), pages[k]);
        }
    }

    // ---- what calls are said with

    static void saidByNumber() {
        Desk.sentence("SAID of a CALL: number: SAID of what its MARK MEANS");
        NumberedText x = Desk.styled("level 1 roman;level 2 letters long;");
        Desk.addPieces(x, CALL, 0, NUMBER, CALL, 1, NUMBER, CALL, 2, NUMBER, CALL, 3, NUMBER, CALL, 4, NUMBER);
        for (int n = 0; n < 8; n++) {
            Desk.add(x, HEADING, 1);
        }
        Desk.add(x, HEADING, 2);
        Desk.add(x, TABLE, 1);
        Desk.add(x, TABLES, 0);
        x.mark(0, 0);
        x.mark(8, 1);
        x.mark(9, 2);
        x.mark(10, 3);
        x.mark(11, 4);
        int[] letters = {1, 4, 6, 1, 6};
        for (int k = 0; k < letters.length; k++) {
            due("letters of call " + k, x.told(0, k, 4), letters[k]);
        }
    }

    static void saidByPage() {
        Desk.sentence("page: the figures of its PAGE and 1");
        NumberedText x = Desk.styled("page 8 by 20;");
        Desk.addPieces(x, CALL, 1, PAGE, CALL, 9, PAGE, CALL, 10, PAGE);
        for (int p = 2; p <= 10; p++) {
            Desk.add(x, FIGURE, 8);
        }
        x.mark(0, 1);
        x.mark(8, 9);
        x.mark(9, 10);
        due("page 9", x.page(8, 0), 9);
        due("page 10", x.page(9, 0), 10);
        due("by page 1", x.told(0, 0, 4), 2);
        due("by page 9", x.told(0, 1, 4), 2);
        due("by page 10", x.told(0, 2, 4), 3);
    }

    static void saidByPageOfThreeFigures() {
        Desk.sentence("page: the figures of its PAGE (99, 100) and 1");
        NumberedText x = Desk.styled("page 8 by 20;");
        for (int n = 0; n < 10; n++) {
            int i = Desk.add(x, PARAGRAPH, 0);
            for (int k = 0; k < 10; k++) {
                x.piece(i, WORD, 18, 0);
                x.piece(i, NOTE, 5, 0);
            }
        }
        due("a page for each line", x.set(3), 100);
        x.put(10, HEADING, 1);
        x.put(9, PARAGRAPH, 0);
        x.piece(9, CALL, 1, PAGE);
        x.piece(9, CALL, 2, PAGE);
        due("the call stands on its own page or the one ahead", x.told(9, 0, 5), 90);
        x.mark(11, 1);
        due("page of the heading", x.page(11, 0), 101);
        due("said", x.told(9, 0, 4), 4);
        x.mark(10, 2);
        due("page of the paragraph", x.page(10, 0), 91);
        due("said", x.told(9, 1, 4), 3);
        x.move(11, 10);
        x.cut(8);
        x.mark(9, 1);
        due("page of the heading", x.page(9, 0), 81);
        due("said", x.told(8, 0, 4), 3);
    }

    static void saidByPlace() {
        Desk.sentence("place: 4, if that is on the PAGE of the CALL; 9, if on the PAGE one on or one ahead; else 5");
        NumberedText x = Desk.styled("page 8 by 40;");
        Desk.add(x, FIGURE, 8);
        Desk.add(x, FIGURE, 8);
        Desk.add(x, FIGURE, 7);
        Desk.addPieces(x, CALL, 1, PLACE, CALL, 2, PLACE, CALL, 3, PLACE, CALL, 4, PLACE, CALL, 5, PLACE);
        Desk.add(x, FIGURE, 8);
        Desk.add(x, FIGURE, 8);
        x.mark(0, 1);
        x.mark(1, 2);
        x.mark(2, 3);
        x.mark(4, 4);
        x.mark(5, 5);
        duePages(x, 1, 2, 3, 3, 4, 5);
        int[] letters = {5, 9, 4, 9, 5};
        for (int k = 0; k < letters.length; k++) {
            due("letters of call " + k, x.told(3, k, 4), letters[k]);
        }
    }

    static void saidByThePageOfThePiece() {
        Desk.sentence("4, if that is on the PAGE of the CALL (that of its LINE)");
        NumberedText x = Desk.styled("page 8 by 20;");
        Desk.addLines(x, 6);
        Desk.addPieces(x, CALL, 1, PLACE, WORD, 20, 0, CALL, 1, PLACE);
        x.mark(1, 1);
        due("page of the first call", x.told(1, 0, 5), 1);
        due("page of the other one", x.told(1, 2, 5), 2);
        due("on its page", x.told(1, 0, 4), 4);
        due("one ahead", x.told(1, 2, 4), 9);
    }

    static void saidInVain() {
        Desk.sentence("In VAIN: 2");
        NumberedText x = Desk.styled("level 1 roman;");
        Desk.addPieces(x, CALL, 0, NUMBER, CALL, 99, PAGE, CALL, 50, PLACE);
        for (int k = 0; k < 3; k++) {
            due("letters of call " + k, x.told(0, k, 4), 2);
        }
        due("settled with round 0", x.set(1), 0);
    }

    static void saidOfANote() {
        Desk.sentence("SAID of a NOTE: its count by figures");
        NumberedText x = Desk.styled("page 60 by 90;");
        for (int n = 0; n < 5; n++) {
            int i = Desk.add(x, PARAGRAPH, 0);
            for (int k = 0; k < 20; k++) {
                x.piece(i, NOTE, 1, 0);
            }
        }
        due("note 9", x.told(0, 8, 4), 1);
        due("note 10", x.told(0, 9, 4), 2);
        due("note 99", x.told(4, 18, 4), 2);
        due("note 100", x.told(4, 19, 4), 3);
        Desk.read(x, "page 60 by 90;notes anew;");
        due("page of note 100", x.told(4, 19, 5), 3);
        due("its count", x.told(4, 19, 7), 20);
        due("said", x.told(4, 19, 4), 2);
    }

    // ---- rounds

    static void roundZero() {
        Desk.sentence("ROUND 0 is SET with 2 letters for each CALL, 1 for each NOTE");
        NumberedText x = Desk.styled("page 8 by 10;");
        Desk.addLines(x, 7);
        int caller = Desk.addPieces(x, WORD, 7, 0, CALL, 1, NUMBER);
        x.mark(caller, 1);
        due("with 2 letters it is one line, on page 1", x.round(0), 1);
        x.drop(caller);
        x.drop(caller);
        x.piece(caller, WORD, 8, 0);
        x.piece(caller, CALL, 1, NUMBER);
        due("with 2 letters it is two lines", x.round(0), 2);
        due("said with 1, it is one line", x.round(1), 1);
        due("settled", x.set(0), SETTLED);
        NumberedText y = Desk.styled("page 8 by 10;");
        Desk.addPieces(y, NOTE, 1, 0, NOTE, 1, 0, NOTE, 1, 0, NOTE, 1, 0, NOTE, 1, 0, NOTE, 1, 0, NOTE, 1, 0, NOTE, 1, 0);
        y.piece(0, NOTE, 1, 0);
        due("nine notes", y.set(1), 0);
        y.piece(0, NOTE, 1, 0);
        due("ten notes", y.set(1), 1);
        dueLines(y, 0, 0, 0, 0, 0, 0, 0, 0, 0, 0, 1);
        due("in round 0 one line of 11 on one page", y.round(0), 1);
        due("in round 1 two lines", y.round(1), 2);
    }

    static void settledAtOnce() {
        Desk.sentence("It is SETTLED with ROUND k, if by its PAGES all are SAID with as many letters as they had in it");
        NumberedText x = new NumberedText();
        due("nothing", x.set(0), SETTLED);
        due("with round", x.set(1), 0);
        Desk.addPieces(x, WORD, 1, 0, NOTE, 1, 0, CALL, 1, PAGE);
        x.mark(0, 1);
        due("page 1 and 1 are the 2 letters of round 0", x.set(1), 0);
        due("settled", x.set(0), SETTLED);
        x.piece(0, CALL, 1, PLACE);
        due("4 letters are not", x.set(1), 1);
        due("settled", x.set(0), SETTLED);
    }

    /** Each chapter's call changes one round behind that of the chapter ahead; the first one does with round 1. */
    private static NumberedText chain(int n) {
        NumberedText x = Desk.styled("page 8 by 10;chapters new;");
        for (int c = 1; c <= n; c++) {
            Desk.add(x, HEADING, 1);
            Desk.addPieces(x, WORD, 4, 0, CALL, c - 1, PLACE, WORD, 20, 0, WORD, 20, 0);
            x.mark(Desk.addLines(x, 3), c);
            if (c == 1) {
                x.mark(Desk.addLines(x, 1), 0);
            }
        }
        return x;
    }

    /** A chapter whose call, said with 9 letters, pushes what it calls two pages off, and draws it back with 5. */
    private static void addRing(NumberedText x) {
        Desk.add(x, HEADING, 1);
        Desk.addPieces(x, WORD, 4, 0, CALL, 77, PLACE);
        Desk.addLines(x, 11);
        x.mark(Desk.addLines(x, 1), 77);
    }

    static void settledWithTheLastRound() {
        Desk.sentence("OPEN it is behind ROUND 11 (SETTLED with ROUND 11)");
        NumberedText x = chain(10);
        due("with round 10", x.set(1), 10);
        due("settled", x.set(0), SETTLED);
        x = chain(11);
        due("with round 11", x.set(1), 11);
        due("settled", x.set(0), SETTLED);
        due("period", x.set(2), 0);
    }

    static void openBehindTheLastRound() {
        Desk.sentence("OPEN it is behind ROUND 11");
        NumberedText x = chain(12);
        due("open", x.set(0), OPEN);
        due("the last round", x.set(1), 11);
        due("period", x.set(2), 0);
        due("round 11", x.round(11), 24);
        due("round 12", x.round(12), OUTSIDE);
        due("the call of the last chapter but one", x.told(32, 1, 4), 9);
        due("the call of the last chapter has not changed yet", x.told(35, 1, 4), 5);
    }

    static void periodBehindARing() {
        Desk.sentence("2 PERIOD (0 but of 1)");
        NumberedText x = chain(11);
        addRing(x);
        x.mark(3, NONE);
        due("without the chain's first mark", x.set(0), GOES_ROUND);
        due("period", x.set(2), 2);
        x.mark(3, 0);
        due("with it", x.set(0), OPEN);
        due("period", x.set(2), 0);
        x.cut(x.means(77));
        x.mark(3, NONE);
        due("without the ring", x.set(0), SETTLED);
        due("period", x.set(2), 0);
    }

    static void goesRoundFromRoundOne() {
        Desk.sentence("it GOES ROUND from ROUND j, if they have just those of a ROUND j ahead of k: PERIOD k and 1 less j");
        NumberedText x = Desk.styled("page 8 by 10;chapters new;");
        addRing(x);
        due("goes round", x.set(0), GOES_ROUND);
        due("with round 2", x.set(1), 2);
        due("from round 1: 2 and 1 less 1", x.set(2), 2);
        due("pages of round 0", x.round(0), 2);
        due("pages of round 1", x.round(1), 3);
        due("pages of round 2", x.round(2), 2);
        due("round 3", x.round(3), OUTSIDE);
    }

    static void goesRoundFromRoundZero() {
        Desk.sentence("they have just those of a ROUND j ahead of k (ROUND 0)");
        NumberedText x = Desk.styled("page 8 by 10;");
        for (int n = 0; n < 8; n++) {
            Desk.add(x, FIGURE, 8);
        }
        Desk.addPieces(x, WORD, 7, 0, CALL, 1, PAGE);
        // behind one line of the caller it fits, behind two it waits and leaves its room to what is called
        Desk.add(x, FIGURE, 7);
        x.mark(Desk.addLines(x, 1), 1);
        due("goes round", x.set(0), GOES_ROUND);
        due("with round 1", x.set(1), 1);
        due("from round 0: 1 and 1 less 0", x.set(2), 2);
        due("letters in round 1", x.told(8, 1, 4), 3);
        due("what is called", x.page(10, 0), 9);
        due("the figure", x.page(9, 0), 10);
    }

    static void goesRoundWithTheLastRound() {
        Desk.sentence("the first of these ends it (GOES ROUND with ROUND 11)");
        for (int n = 8; n <= 11; n++) {
            NumberedText x = chain(n);
            addRing(x);
            due("outcome of " + n, x.set(0), n <= 10 ? GOES_ROUND : OPEN);
            due("last round of " + n, x.set(1), n <= 10 ? n + 1 : 11);
            due("period of " + n, x.set(2), n <= 10 ? 2 : 0);
        }
    }

    static void pagesOfTheLastRound() {
        Desk.sentence("PAGES are those of the last ROUND");
        NumberedText x = Desk.styled("page 8 by 10;chapters new;");
        addRing(x);
        due("what is called", x.page(3, 0), 2);
        due("pages", x.set(3), 2);
        due("letters in the last round", x.told(1, 1, 4), 5);
        due("lines of the caller in it", x.page(1, 1), 1);
        dueUsed(x, 8, 8);
    }

    // ---- promises 12 to 17

    static void setWhat() {
        Desk.sentence("set: what = 0 .. 4 USED of the last one; OUTSIDE");
        NumberedText x = new NumberedText();
        for (int what : new int[] {LEAST, -1, 5, MOST}) {
            due("set(" + what + ")", x.set(what), OUTSIDE);
        }
        Desk.addLines(x, 20);
        Desk.addLines(x, 3);
        int[] all = {SETTLED, 0, 0, 2, 3};
        for (int what = 0; what <= 4; what++) {
            due("set(" + what + ")", x.set(what), all[what]);
        }
    }

    static void pagesWithoutItems() {
        Desk.sentence("3 PAGES (0 without ITEMS)");
        NumberedText x = new NumberedText();
        due("without items", x.set(3), 0);
        due("used of the last one", x.set(4), 0);
        x.put(0, PARAGRAPH, 0);
        due("with one that has no lines", x.set(3), 1);
        due("used of it", x.set(4), 0);
        due("used(1)", x.used(1), 0);
        x.cut(0);
        due("without items again", x.set(3), 0);
        due("round(0)", x.round(0), 0);
        due("used(1)", x.used(1), UNKNOWN);
    }

    static void pageWhat() {
        Desk.sentence("page: what = 0 its PAGE, 1 LINES, 2 the PAGE of its last LINE; UNKNOWN, OUTSIDE");
        NumberedText x = new NumberedText();
        due("of nothing", x.page(0, 0), UNKNOWN);
        Desk.addLines(x, 1);
        for (int what : new int[] {LEAST, -1, 3, MOST}) {
            due("page(0, " + what + ")", x.page(0, what), OUTSIDE);
            due("page(1, " + what + ")", x.page(1, what), UNKNOWN);
        }
        for (int i : new int[] {LEAST, -1, 1, 59, 60, MOST}) {
            for (int what = 0; what <= 2; what++) {
                due("page(" + i + ", " + what + ")", x.page(i, what), UNKNOWN);
            }
        }
        int[] lines = {3, 5, 8};
        int[] kinds = {HEADING, FIGURE, TABLE};
        int[] a = {1, 5, 8};
        for (int n = 0; n < 3; n++) {
            int i = Desk.add(x, kinds[n], a[n]);
            due("its lines", x.page(i, 1), lines[n]);
            due("its last line", x.page(i, 2), x.page(i, 0));
        }
    }

    static void usedOfNoPage() {
        Desk.sentence("used: USED of PAGE p. UNKNOWN: there is no such");
        NumberedText x = Desk.styled("page 8 by 20;");
        for (int p : new int[] {LEAST, -1, 0, 1, 2, MOST}) {
            due("used(" + p + ") of nothing", x.used(p), UNKNOWN);
        }
        Desk.addLines(x, 9);
        for (int p : new int[] {LEAST, -1, 0, 3, 4, 1260, 1261, MOST}) {
            due("used(" + p + ") of two", x.used(p), UNKNOWN);
        }
        dueUsed(x, 8, 1);
        x.drop(0);
        due("used(2) of one", x.used(2), UNKNOWN);
    }

    static void roundOutside() {
        Desk.sentence("PAGES of a ROUND (0 up to the last one). OUTSIDE");
        NumberedText x = new NumberedText();
        due("round 0 of nothing", x.round(0), 0);
        due("round 1 of nothing", x.round(1), OUTSIDE);
        Desk.addPieces(x, CALL, 1, PLACE);
        x.mark(0, 1);
        due("round 0", x.round(0), 1);
        due("round 1", x.round(1), 1);
        for (int r : new int[] {LEAST, -1, 2, 11, 12, MOST}) {
            due("round " + r, x.round(r), OUTSIDE);
        }
    }

    static void listOfOthers() {
        Desk.sentence("The k-th ITEM of the LIST at place i: its place; NONE. UNKNOWN, NOT: it is no LIST");
        NumberedText x = new NumberedText();
        due("of nothing", x.list(0, 0), UNKNOWN);
        for (int kind = 0; kind <= 6; kind++) {
            Desk.add(x, kind, 1);
        }
        int[] first = {NOT, NOT, NOT, NOT, 0, 2, 3};
        for (int i = 0; i < 7; i++) {
            due("list(" + i + ", 0)", x.list(i, 0), first[i]);
            for (int k : new int[] {LEAST, -1, 1, 60, MOST}) {
                due("list(" + i + ", " + k + ")", x.list(i, k), i < 4 ? NOT : NONE);
            }
        }
        for (int i : new int[] {LEAST, -1, 7, 59, 60, MOST}) {
            due("list(" + i + ", 0)", x.list(i, 0), UNKNOWN);
        }
        x.cut(2);
        due("a list of nothing", x.list(4, 0), NONE);
    }

    static void theLongestList() {
        Desk.sentence("The k-th ITEM of the LIST at place i: its place; NONE (59 ITEMS)");
        NumberedText x = new NumberedText();
        Desk.add(x, TABLES, 0);
        for (int n = 1; n < 60; n++) {
            Desk.add(x, TABLE, 1);
        }
        due("lines", x.page(0, 1), 59);
        due("the first", x.list(0, 0), 1);
        due("the last", x.list(0, 58), 59);
        due("behind it", x.list(0, 59), NONE);
        due("used", x.used(1), 20);
        due("used", x.used(3), 20);
        due("page of its last line", x.page(0, 2), 3);
    }

    static void bestOutside() {
        Desk.sentence("best: from a to b (8 .. 60); OUTSIDE (b below a; more than 16 of them)");
        NumberedText x = new NumberedText();
        Desk.addLines(x, 8);
        int[][] outside = {{7, 8}, {7, 7}, {60, 61}, {61, 61}, {9, 8}, {60, 8}, {8, 24}, {44, 60}, {45, 61}, {7, 22},
            {8, 60}, {LEAST, MOST}, {MOST, LEAST}, {LEAST, LEAST}, {MOST, MOST}, {-1, 5}, {8, MOST}, {LEAST, 8}, {0, 0}};
        for (int[] o : outside) {
            due("best(" + o[0] + ", " + o[1] + ", 0)", x.best(o[0], o[1], 0), OUTSIDE);
            due("best(" + o[0] + ", " + o[1] + ", 1)", x.best(o[0], o[1], 1), OUTSIDE);
        }
        int[][] fine = {{8, 8}, {60, 60}, {8, 23}, {45, 60}, {44, 59}, {9, 24}};
        for (int[] f : fine) {
            due("best(" + f[0] + ", " + f[1] + ", 0)", x.best(f[0], f[1], 0), f[0]);
            due("best(" + f[0] + ", " + f[1] + ", 1)", x.best(f[0], f[1], 1), 1);
        }
        for (int what : new int[] {LEAST, -1, 2, MOST}) {
            due("best(8, 8, " + what + ")", x.best(8, 8, what), OUTSIDE);
        }
    }

    static void bestIsTheLeast() {
        Desk.sentence("The least H from a to b with which it is SETTLED on the fewest PAGES");
        NumberedText x = Desk.styled("page 8 by 20;");
        Desk.addLines(x, 20);
        int[][] want = {{8, 9, 8, 3}, {8, 10, 10, 2}, {10, 19, 10, 2}, {11, 19, 11, 2}, {8, 23, 20, 1}, {20, 35, 20, 1},
            {19, 20, 20, 1}};
        for (int[] w : want) {
            due("H from " + w[0] + " to " + w[1], x.best(w[0], w[1], 0), w[2]);
            due("PAGES from " + w[0] + " to " + w[1], x.best(w[0], w[1], 1), w[3]);
        }
    }

    static void bestNone() {
        Desk.sentence("NONE: with none");
        NumberedText x = Desk.styled("page 20 by 10;chapters new;");
        addRing(x);
        due("8 goes round: H", x.best(8, 8, 0), NONE);
        due("8 goes round: PAGES", x.best(8, 8, 1), NONE);
        due("9 does not: H", x.best(8, 9, 0), 9);
        due("9 does not: PAGES", x.best(8, 9, 1), 2);
        NumberedText open = chain(12);
        due("8 is open: H", open.best(8, 8, 0), NONE);
        due("8 is open: PAGES", open.best(8, 8, 1), NONE);
    }

    static void bestLeavesTheStyle() {
        Desk.sentence("(THE STYLE stays)");
        NumberedText x = Desk.styled("page 8 by 10;chapters new;");
        addRing(x);
        due("H", x.best(8, 23, 0), 16);
        Desk.dueStyle(x, 8, 10, 0, 0, 0, 0, 1, 1, 1, 1, 0, 0, 1);
        due("outcome", x.set(0), GOES_ROUND);
        due("letters", x.told(1, 1, 4), 5);
        due("best again", x.best(8, 23, 1), 1);
        due("letters", x.told(1, 1, 4), 5);
        dueUsed(x, 8, 8);
    }
}
