/** Boundary cases of the document's part 5 and of the promises 25 to 28, a test for each sentence. */
public final class BoundsOfStyleTest {
    private static final int NONE = Desk.NONE, OUTSIDE = Desk.OUTSIDE, FULL = Desk.FULL;
    private static final int LEAST = Desk.LEAST, MOST = Desk.MOST;
    private static final int[] FIRST = {20, 40, 0, 0, 0, 0, 1, 1, 1, 1, 0, 0, 0};
    private static final String EIGHT_CLAUSES = "page 60 by 90;level 1 roman;level 2 letters long;level 3 figures;"
            + "level 4 roman long;figures anew;notes anew;chapters new;";

    public static void main(String[] args) throws IllegalAccessException {
        Desk.runAll(BoundsOfStyleTest.class);
    }

    private static void due(String call, int got, int want) {
        Desk.due(call, got, want);
    }

    private static void dueFine(String text, int clauses, int... style) {
        NumberedText x = new NumberedText();
        due("read of '" + text + "'", Desk.read(x, text), clauses);
        due("fault of '" + text + "'", x.fault(), NONE);
        due("bytes behind '" + text + "'", x.count(8), 0);
        Desk.dueStyle(x, style);
    }

    private static void dueFault(String text, int number, int at) {
        NumberedText x = new NumberedText();
        due("read of '" + text + "'", Desk.read(x, text), -10 - number);
        due("fault of '" + text + "'", x.fault(), at);
        due("bytes behind '" + text + "'", x.count(8), 0);
        Desk.dueStyle(x, FIRST);
    }

    private static String blanks(int n) {
        return " ".repeat(n);
    }

    // ---- the grammar

    static void atFirst() {
        Desk.sentence("At first: 20 by 40; all LEVELS figures, long; figures on, notes on, chapters on");
        Desk.dueStyle(new NumberedText(), FIRST);
        dueFine("", 0, FIRST);
        dueFine("page 20 by 40;level 1 figures long;level 2 figures long;level 3 figures long;level 4 figures long;"
                + "figures on;notes on;chapters on;", 8, FIRST);
    }

    static void whatATextDoesNotTell() {
        Desk.sentence("At first, and what a text does not tell");
        NumberedText x = new NumberedText();
        Desk.read(x, EIGHT_CLAUSES);
        due("one clause", Desk.read(x, "level 2 roman;"), 1);
        Desk.dueStyle(x, 20, 40, 0, 2, 0, 0, 1, 0, 1, 1, 0, 0, 0);
        due("another one", Desk.read(x, "notes anew;"), 1);
        Desk.dueStyle(x, 20, 40, 0, 0, 0, 0, 1, 1, 1, 1, 0, 1, 0);
        due("no clause", Desk.read(x, ""), 0);
        Desk.dueStyle(x, FIRST);
    }

    static void pageClause() {
        Desk.sentence("'page' N 'by' N ';' (H, W)");
        dueFine("page 8 by 10;", 1, 8, 10, 0, 0, 0, 0, 1, 1, 1, 1, 0, 0, 0);
        dueFine("page 60 by 90;", 1, 60, 90, 0, 0, 0, 0, 1, 1, 1, 1, 0, 0, 0);
        dueFault("page 7 by 10;", 2, 5);
        dueFault("page 61 by 10;", 2, 5);
        dueFault("page 8 by 9;", 2, 10);
        dueFault("page 8 by 91;", 2, 10);
        dueFault("page 0 by 10;", 2, 5);
        dueFault("page 00 by 10;", 2, 5);
        dueFault("page 8 by 0;", 2, 10);
        dueFault("page;", 1, 4);
        dueFault("page 8;", 1, 6);
        dueFault("page 8 by;", 1, 9);
        dueFault("page 8 by 10", 1, 12);
        dueFault("page by 8 10;", 1, 5);
        dueFault("page 8 10;", 1, 7);
        dueFault("page 8 by 10 10;", 1, 13);
        dueFault("page 8 by by 10;", 1, 10);
        dueFault("page 8 on 10;", 1, 7);
    }

    static void levelClause() {
        Desk.sentence("'level' L form ['long'] ';'");
        dueFine("level 1 figures;level 2 letters;level 3 roman;level 4 roman long;", 4,
                20, 40, 0, 1, 2, 2, 0, 0, 0, 1, 0, 0, 0);
        dueFault("level;", 1, 5);
        dueFault("level 1;", 1, 7);
        dueFault("level roman;", 1, 6);
        dueFault("level 1 long;", 1, 8);
        dueFault("level 1 long roman;", 1, 8);
        dueFault("level 1 roman long", 1, 18);
        dueFault("level 1 roman", 1, 13);
        dueFault("level 1 roman short;", 1, 14);
        dueFault("level 1 roman long long;", 1, 19);
        dueFault("level 1 roman letters;", 1, 14);
        dueFault("level 1 2 roman;", 1, 8);
        dueFault("level 1 roman 2;", 1, 14);
    }

    static void levelOneToFour() {
        Desk.sentence("L 1 to 4");
        for (int level = 1; level <= 4; level++) {
            NumberedText x = new NumberedText();
            due("level " + level, Desk.read(x, "level " + level + " roman;"), 1);
            due("level 0" + level, Desk.read(x, "level 0" + level + " roman;"), 1);
            for (int other = 1; other <= 4; other++) {
                due("form of " + other, x.style(1 + other), other == level ? 2 : 0);
                due("long of " + other, x.style(5 + other), other == level ? 0 : 1);
            }
        }
        dueFault("level 0 roman;", 2, 6);
        dueFault("level 5 roman;", 2, 6);
        dueFault("level 9 roman;", 2, 6);
        dueFault("level 00 roman;", 2, 6);
        dueFault("level 05 roman;", 2, 6);
        dueFault("level 10 roman;", 2, 6);
        dueFault("level 11 roman;", 2, 6);
        dueFault("level 001 roman;", 2, 6);
    }

    static void otherClauses() {
        Desk.sentence("'figures' ('anew' | 'on') ';' 'notes' ('anew' | 'on') ';' 'chapters' ('new' | 'on') ';'");
        dueFine("figures anew;", 1, 20, 40, 0, 0, 0, 0, 1, 1, 1, 1, 1, 0, 0);
        dueFine("notes anew;", 1, 20, 40, 0, 0, 0, 0, 1, 1, 1, 1, 0, 1, 0);
        dueFine("chapters new;", 1, 20, 40, 0, 0, 0, 0, 1, 1, 1, 1, 0, 0, 1);
        dueFine("figures on;", 1, FIRST);
        dueFine("notes on;", 1, FIRST);
        dueFine("chapters on;", 1, FIRST);
        dueFault("figures new;", 1, 8);
        dueFault("notes new;", 1, 6);
        dueFault("chapters anew;", 1, 9);
        dueFault("figures;", 1, 7);
        dueFault("notes;", 1, 5);
        dueFault("chapters;", 1, 8);
        dueFault("figures anew on;", 1, 13);
        dueFault("notes on on;", 1, 9);
        dueFault("chapters new", 1, 12);
        dueFault("figures 1;", 1, 8);
    }

    static void wordsAreLetters() {
        Desk.sentence("Words are letters a .. z side by side");
        dueFault("Notes on;", 1, 0);
        dueFault("notes On;", 1, 6);
        dueFault("note on;", 1, 0);
        dueFault("notess on;", 1, 0);
        dueFault("anotes on;", 1, 0);
        dueFault("notesz on;", 1, 0);
        dueFault("no tes on;", 1, 0);
        dueFault("notes o n;", 1, 6);
        dueFault("notes`on;", 1, 5);
        dueFault("notes{on;", 1, 5);
        dueFault("notes_on;", 1, 5);
        dueFault("not", 1, 0);
    }

    static void numbersOfOneOrTwoFigures() {
        Desk.sentence("N, L: NUMBERS of one or two figures");
        dueFine("page 08 by 10;", 1, 8, 10);
        dueFine("page 9 by 10;level 04 roman;", 2, 9, 10, 0, 0, 0, 2);
        dueFault("page 008 by 10;", 2, 5);
        dueFault("page 8 by 010;", 2, 10);
        dueFault("page 100 by 10;", 2, 5);
        dueFault("page /8 by 10;", 1, 5);
        dueFault("page :8 by 10;", 1, 5);
        dueFault("page 8/ by 10;", 1, 6);
        dueFault("page 8: by 10;", 1, 6);
        dueFault("page -8 by 10;", 1, 5);
        dueFault("page eight by 10;", 1, 5);
    }

    static void blanksAnywhere() {
        Desk.sentence("blanks (32) may stand anywhere but within words and NUMBERS");
        dueFine(blanks(1), 0, FIRST);
        dueFine(blanks(160), 0, FIRST);
        dueFine("  page  09  by  11  ;  level  2  roman  long  ;  ", 2, 9, 11, 0, 2, 0, 0, 1, 1);
        dueFine("page9by11;level2roman;", 2, 9, 11, 0, 2, 0, 0, 1, 0);
        dueFault("page 1 0 by 11;", 2, 5);
        dueFault("page 9 0 by 11;", 1, 7);
        dueFault("page 10 by 1 1;", 2, 11);
        dueFault("pa ge 9 by 11;", 1, 0);
        for (char sign : new char[] {0, 9, 10, 13, 31, 33, 127, 160, 255}) {
            dueFault("notes" + sign + "on;", 1, 5);
            dueFault(sign + "notes on;", 1, 0);
            dueFault("notes on;" + sign, 1, 9);
        }
    }

    static void twoWordsNeedABlank() {
        Desk.sentence("two words side by side need one");
        dueFault("noteson;", 1, 0);
        dueFault("figuresanew;", 1, 0);
        dueFault("level 1 romanlong;", 1, 8);
        dueFine("notes on;figures on;", 2, FIRST);
        dueFine("level1roman long;", 1, 20, 40, 2);
    }

    // ---- faults

    static void cannotStandThere() {
        Desk.sentence("1 it cannot stand there (a word that cannot: at its first letter)");
        dueFault(";", 1, 0);
        dueFault("  ;", 1, 2);
        dueFault("notes on;;", 1, 9);
        dueFault("notes on; ;", 1, 10);
        dueFault("x", 1, 0);
        dueFault("8", 1, 0);
        dueFault("by", 1, 0);
        dueFault("anew;", 1, 0);
        dueFault("notes roman;", 1, 6);
        dueFault("notes on notes on;", 1, 9);
        dueFault("notes on page 8 by 10;", 1, 9);
        dueFault("notes on, page 8 by 10;", 1, 8);
        dueFault("page 8 byte 10;", 1, 7);
        dueFault("page 8x by 10;", 1, 6);
        dueFault("level 1 figures anew;", 1, 16);
    }

    static void theEnd() {
        Desk.sentence("(the end at the text's length)");
        dueFault("page", 1, 4);
        dueFault("page ", 1, 5);
        dueFault("page   ", 1, 7);
        dueFault("page 8", 1, 6);
        dueFault("page 8 by", 1, 9);
        dueFault("page 8 by 10", 1, 12);
        dueFault("level", 1, 5);
        dueFault("level 1", 1, 7);
        dueFault("level 1 roman ", 1, 14);
        dueFault("notes on;chapters", 1, 17);
        dueFault("notes" + blanks(155), 1, 160);
        dueFault(blanks(155) + "notes", 1, 160);
        dueFault(blanks(159) + ";", 1, 159);
    }

    static void badNumbers() {
        Desk.sentence("2 a NUMBER of three figures or more, or out of its bounds (at its first)");
        dueFault("page 008 by 10;", 2, 5);
        dueFault("page 0000000000000000000008 by 10;", 2, 5);
        dueFault("page 4294967304 by 10;", 2, 5);
        dueFault("page 8 by 18446744073709551626;", 2, 10);
        dueFault("level 4294967297 roman;", 2, 6);
        dueFault("page" + "9".repeat(156), 2, 4);
        dueFault("page 61", 2, 5);
        dueFault("page 99 by 99;", 2, 5);
        dueFault("page 60 by 99;", 2, 11);
    }

    static void toldAlready() {
        Desk.sentence("3 a clause of a kind, a LEVEL, that was told already (at its first letter; of a LEVEL at its L)");
        dueFault("page 8 by 10;page 9 by 11;", 3, 13);
        dueFault("figures on;figures on;", 3, 11);
        dueFault("notes on; notes anew;", 3, 10);
        dueFault("chapters new;chapters on;", 3, 13);
        dueFault("notes on;figures on;chapters on;page 8 by 10;notes on;", 3, 45);
        for (int level = 1; level <= 4; level++) {
            dueFault("level " + level + " roman;level " + level + " roman;", 3, 20);
            dueFault("level " + level + " roman;level 0" + level + " roman;", 3, 20);
            dueFault("level " + level + " roman;level  " + level + " roman;", 3, 21);
        }
        dueFault("level 1 roman;level 2 roman;level 3 roman;level 4 roman;level 3 roman;", 3, 62);
    }

    static void theFirstByteThatHasOne() {
        Desk.sentence("FAULTS, at the first byte that has one");
        dueFault("page 8 by 10;page 7 by 9;", 3, 13);
        dueFault("page 8 by 10;page", 3, 13);
        dueFault("notes on;notes", 3, 9);
        dueFault("level 1 roman;level 1", 3, 20);
        dueFault("level 1 roman;level 1 x;", 3, 20);
        dueFault("level 1 roman;level", 1, 19);
        dueFault("level 1 roman;level x;", 1, 20);
        dueFault("level 1 roman;level 5 roman;", 2, 20);
        dueFault("page 7 x", 2, 5);
        dueFault("page x 7", 1, 5);
        dueFault("notes x;notes on;", 1, 6);
    }

    static void ofTheseTheLeast() {
        Desk.sentence("of these the least");
        dueFault("notes 100;", 1, 6);
        dueFault("100", 1, 0);
        dueFault("page 8 by 10 100;", 1, 13);
        dueFault("level 1 roman;level 101 roman;", 2, 20);
        dueFault("notes on;notes100;", 3, 9);
        dueFault("notes on notes on;", 1, 9);
    }

    // ---- promises 25 to 28

    static void feedUpToEight() {
        Desk.sentence("Up to eight bytes (n 1 .. 8) .. OUTSIDE");
        NumberedText x = new NumberedText();
        for (int n : new int[] {LEAST, -8, -1, 0, 9, 160, MOST}) {
            due("feed(" + n + ")", x.feed(n, 0x2020202020202020L), OUTSIDE);
            due("bytes", x.count(8), 0);
        }
        int bytes = 0;
        for (int n = 1; n <= 8; n++) {
            bytes += n;
            due("feed(" + n + ")", x.feed(n, 0x2020202020202020L), bytes);
            due("bytes", x.count(8), bytes);
        }
        due("read", x.read(), 0);
    }

    static void theHighestOfTheseFirst() {
        Desk.sentence("bytes of a long, the highest of these first");
        for (int n = 1; n <= 8; n++) {
            NumberedText x = new NumberedText();
            String text = "notes on;";
            int from = 0;
            while (from < text.length()) {
                int now = Math.min(n, text.length() - from);
                long bytes = 0xffeeddccbbaa9988L;
                for (int k = 0; k < now; k++) {
                    bytes = bytes << 8 | text.charAt(from + k);
                }
                from += now;
                due("fed by " + n, x.feed(now, bytes), from);
            }
            due("read", x.read(), 1);
        }
    }

    static void signsAbove127() {
        Desk.sentence("Up to eight bytes of a long (a byte of 128 and more)");
        NumberedText x = new NumberedText();
        due("feed", x.feed(8, 0x6e6f746573206f6eL), 8);
        due("feed", x.feed(2, 0x3bffL), 10);
        due("read", x.read(), -11);
        due("fault", x.fault(), 9);
        due("feed", x.feed(8, -1L), 8);
        due("read", x.read(), -11);
        due("fault", x.fault(), 0);
        due("feed", x.feed(1, 0x3b00L), 1);
        due("read", x.read(), -11);
        due("feed", x.feed(1, 0x3b20L), 1);
        due("read", x.read(), 0);
    }

    static void at160BytesFull() {
        Desk.sentence("THE STYLE is a text (160 bytes at most); feed: FULL");
        for (int n = 1; n <= 8; n++) {
            NumberedText x = new NumberedText();
            Desk.feed(x, blanks(160 - n));
            if (n < 8) {
                due("one too many", x.feed(n + 1, 0), FULL);
                due("bytes", x.count(8), 160 - n);
            }
            due("just as many", x.feed(n, 0x2020202020202020L), 160);
            for (int more = 1; more <= 8; more++) {
                due(more + " more", x.feed(more, 0x2020202020202020L), FULL);
            }
            due("bytes", x.count(8), 160);
            due("read", x.read(), 0);
            due("it is empty then", x.feed(n, 0x2020202020202020L), n);
        }
    }

    static void feedOutsideAheadOfFull() {
        Desk.sentence("OUTSIDE, FULL: of several the first");
        NumberedText x = new NumberedText();
        Desk.feed(x, blanks(160));
        due("feed(9)", x.feed(9, 0), OUTSIDE);
        due("feed(0)", x.feed(0, 0), OUTSIDE);
        due("feed(1)", x.feed(1, 0), FULL);
    }

    static void longestStyle() {
        Desk.sentence("a text (160 bytes at most) becomes THE STYLE");
        int gap = 160 - EIGHT_CLAUSES.length();
        dueFine(blanks(gap) + EIGHT_CLAUSES, 8, 60, 90, 2, 1, 0, 2, 0, 1, 0, 1, 1, 1, 1);
        dueFine(EIGHT_CLAUSES + blanks(gap), 8, 60, 90, 2, 1, 0, 2, 0, 1, 0, 1, 1, 1, 1);
        dueFault(EIGHT_CLAUSES + blanks(gap - 1) + ";", 1, 159);
        dueFault(blanks(gap + 1) + EIGHT_CLAUSES.substring(0, EIGHT_CLAUSES.length() - 1), 1, 160);
    }

    static void readCountsClauses() {
        Desk.sentence("That text becomes THE STYLE: how many clauses");
        String[] clauses = EIGHT_CLAUSES.split(";");
        StringBuilder text = new StringBuilder();
        due("none", new NumberedText().read(), 0);
        for (int n = 1; n <= 8; n++) {
            text.append(clauses[n - 1]).append(';');
            due(n + " clauses", Desk.read(new NumberedText(), text.toString()), n);
        }
    }

    static void readIsEmptyThen() {
        Desk.sentence("That text (it is empty then)");
        NumberedText x = new NumberedText();
        due("fine", Desk.read(x, "notes anew;"), 1);
        due("bytes", x.count(8), 0);
        due("a fault", Desk.read(x, "notes anew"), -11);
        due("bytes", x.count(8), 0);
        due("style", x.style(11), 1);
        due("the end of the other text is not there", Desk.read(x, ";"), -11);
        due("read again", x.read(), 0);
        due("as at first", x.style(11), 0);
    }

    static void readWithAFault() {
        Desk.sentence("-10 less the number of its FAULT (THE STYLE is as it was)");
        String[] faults = {"page 8 by 10;notes on;x", "page 8 by 10;level 0 roman;", "page 8 by 10;page 8 by 10;"};
        for (int f = 0; f < 3; f++) {
            NumberedText x = new NumberedText();
            Desk.read(x, EIGHT_CLAUSES);
            Desk.add(x, Desk.FIGURE, 8);
            due("used", x.set(4), 8);
            due("read of '" + faults[f] + "'", Desk.read(x, faults[f]), -11 - f);
            Desk.dueStyle(x, 60, 90, 2, 1, 0, 2, 0, 1, 0, 1, 1, 1, 1);
            due("items", x.count(0), 1);
            due("read again", Desk.read(x, EIGHT_CLAUSES), 8);
        }
    }

    static void readChangesWhatIsSet() {
        Desk.sentence("That text becomes THE STYLE (what is SET then is SET with it)");
        NumberedText x = new NumberedText();
        Desk.addLines(x, 16);
        due("20 by 40", x.set(3), 1);
        Desk.read(x, "page 8 by 40;");
        due("8 by 40", x.set(3), 2);
        Desk.read(x, "page 8 by 90;");
        due("8 by 90", x.set(3), 1);
        Desk.read(x, "page 8 by");
        due("a fault", x.set(3), 1);
    }

    static void faultOfTheLatest() {
        Desk.sentence("The byte of the FAULT of the latest read(); NONE");
        NumberedText x = new NumberedText();
        due("no read yet", x.fault(), NONE);
        Desk.feed(x, "notes x");
        due("not read yet", x.fault(), NONE);
        due("read", x.read(), -11);
        due("its byte", x.fault(), 6);
        due("asked again", x.fault(), 6);
        Desk.feed(x, "notes on;");
        due("the next one is not read yet", x.fault(), 6);
        due("read", x.read(), 1);
        due("none", x.fault(), NONE);
        due("read", Desk.read(x, ";"), -11);
        due("byte 0", x.fault(), 0);
        due("an empty one", x.read(), 0);
        due("none", x.fault(), NONE);
    }

    static void styleOutside() {
        Desk.sentence("Of THE STYLE: what = 0 H .. 12 chapters new. OUTSIDE");
        NumberedText x = new NumberedText();
        for (int what : new int[] {LEAST, -1, 13, 14, MOST}) {
            due("style(" + what + ")", x.style(what), OUTSIDE);
        }
        Desk.dueStyle(x, FIRST);
        Desk.read(x, EIGHT_CLAUSES);
        Desk.dueStyle(x, 60, 90, 2, 1, 0, 2, 0, 1, 0, 1, 1, 1, 1);
    }
}
