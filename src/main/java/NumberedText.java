import java.util.Arrays;

/**
 * A long text whose parts are numbered and call one another by number, page and place;
 * it is set again and again with what the calls say, till nothing changes or it goes round.
 */
public final class NumberedText {
    public static final int NONE = -1, UNKNOWN = -1001, OUTSIDE = -1002, NOT = -1003, FULL = -1004;

    private static final int MOST_ITEMS = 60;
    private static final int MOST_NAMES = 200;
    private static final int MOST_PIECES_OF_ITEM = 20;
    private static final int MOST_PIECES = MOST_ITEMS * MOST_PIECES_OF_ITEM;
    private static final int MOST_MARKS = 100;
    private static final int VERSIONS = 3;
    private static final int LEVELS = 4;

    /** A page is left only when something stands on it, and there are never more lines and figures than this. */
    private static final int MOST_PAGES = MOST_PIECES + MOST_ITEMS;

    private static final int HEADING = 0, PARAGRAPH = 1, FIGURE = 2, TABLE = 3, LIST_OF_HEADINGS = 4,
            LIST_OF_FIGURES = 5, LIST_OF_TABLES = 6;
    private static final int WORD = 0, CALL = 1, NOTE = 2;
    private static final int BY_NUMBER = 0, BY_PAGE = 1, BY_PLACE = 2;

    private static final int MOST_LINES_OF_FIGURE = 8, MOST_LINES_OF_NOTE = 5, MOST_LETTERS_OF_WORD = 20;
    private static final int LEAST_HEIGHT = 8, MOST_HEIGHT = 60, FIRST_HEIGHT = 20;
    private static final int LEAST_WIDTH = 10, MOST_WIDTH = 90, FIRST_WIDTH = 40;
    private static final int MOST_HEIGHTS_TRIED = 16;

    private static final int SETTLED = 0, GOES_ROUND = 1, OPEN = 2;
    private static final int LAST_ROUND = 11;

    private final Text text = new Text();
    private final Text[] versions = new Text[VERSIONS];
    private final boolean[] kept = new boolean[VERSIONS];
    private final Numbers numbers = new Numbers();
    /** The letters of each round while something is set; both settings use it, one after the other. */
    private final int[][] lettersOfRounds = new int[LAST_ROUND + 1][MOST_PIECES];
    private final Setting setting = new Setting(text, lettersOfRounds);
    /** For what is set beside the text itself: a version, another height. */
    private final Setting trial = new Setting(text, lettersOfRounds);
    private final Sections sections = new Sections();
    private final Reader reader = new Reader();
    private int namesGiven = 0;
    private boolean settingStands = false;

    public NumberedText() {
        for (int v = 0; v < VERSIONS; v++) {
            versions[v] = new Text();
        }
    }

    // ---- items

    public int put(int i, int kind, int a) {
        if (i < 0 || i > text.size || kind < HEADING || kind > LIST_OF_TABLES || !isMeasure(kind, a)) {
            return OUTSIDE;
        }
        if (text.size >= MOST_ITEMS || namesGiven >= MOST_NAMES) {
            return FULL;
        }
        int name = namesGiven;
        text.insert(i, name, kind, hasMeasure(kind) ? a : 0);
        namesGiven++;
        settingStands = false;
        return name;
    }

    public int cut(int i) {
        if (!text.has(i)) {
            return UNKNOWN;
        }
        int name = text.items[i].name;
        text.takeOut(i);
        settingStands = false;
        return name;
    }

    public int move(int i, int j) {
        if (!text.has(i) || !text.has(j)) {
            return UNKNOWN;
        }
        text.shift(i, j);
        settingStands = false;
        return 1;
    }

    public int mark(int i, int m) {
        if (!text.has(i)) {
            return UNKNOWN;
        }
        if (m != NONE && !isMark(m)) {
            return OUTSIDE;
        }
        Item item = text.items[i];
        int before = item.mark;
        item.mark = m;
        settingStands = false;
        return before;
    }

    public int piece(int i, int kind, int a, int b) {
        if (!text.has(i)) {
            return UNKNOWN;
        }
        if (!isPiece(kind, a, b)) {
            return OUTSIDE;
        }
        Item item = text.items[i];
        if (item.kind != PARAGRAPH) {
            return NOT;
        }
        if (item.pieces >= MOST_PIECES_OF_ITEM) {
            return FULL;
        }
        item.append(kind, a, kind == CALL ? b : 0);
        settingStands = false;
        return item.pieces;
    }

    public int drop(int i) {
        if (!text.has(i)) {
            return UNKNOWN;
        }
        Item item = text.items[i];
        if (item.kind != PARAGRAPH || item.pieces == 0) {
            return NOT;
        }
        item.pieces--;
        settingStands = false;
        return item.pieces;
    }

    public int about(int i, int what) {
        if (!text.has(i)) {
            return UNKNOWN;
        }
        Item item = text.items[i];
        switch (what) {
            case 0: return item.name;
            case 1: return item.kind;
            case 2: return item.measure;
            case 3: return item.mark;
            case 4: return item.pieces;
            case 5: return freshNumbers().section[i];
            case 6: return freshNumbers().said[i];
            case 7: return freshNumbers().own[i];
            default: return OUTSIDE;
        }
    }

    public int number(int i, int k) {
        if (!text.has(i)) {
            return UNKNOWN;
        }
        if (k < 1 || k > LEVELS) {
            return OUTSIDE;
        }
        return freshNumbers().countOf(i, k);
    }

    public int told(int i, int k, int what) {
        if (!text.has(i) || k < 0 || k >= text.items[i].pieces) {
            return UNKNOWN;
        }
        Item item = text.items[i];
        switch (what) {
            case 0: return item.pieceKind[k];
            case 1: return item.pieceA[k];
            case 2: return item.pieceB[k];
            case 3: return text.meantBy(item, k);
            case 4: return freshSetting().lettersOf(i, k);
            case 5: return freshSetting().layout.pageOfPiece(i, k);
            case 6: return freshSetting().layout.lineOfPiece(i, k);
            case 7: return freshSetting().noteCountOf(i, k);
            default: return OUTSIDE;
        }
    }

    public int count(int what) {
        switch (what) {
            case 0: return text.size;
            case 1: return namesGiven;
            case 2: return text.countAllPieces();
            case 3: return text.countPieces(CALL);
            case 4: return text.countVainCalls();
            case 5: return text.countMarksToldTwice();
            case 6: return text.countLonely();
            case 7: return text.countLate();
            case 8: return reader.length;
            case 9: return text.countPieces(NOTE);
            default: return OUTSIDE;
        }
    }

    // ---- setting

    public int set(int what) {
        switch (what) {
            case 0: return freshSetting().outcome;
            case 1: return freshSetting().last;
            case 2: return freshSetting().period;
            case 3: return freshSetting().pagesInAll();
            case 4: return freshSetting().layout.pages.takenOfLast();
            default: return OUTSIDE;
        }
    }

    public int page(int i, int what) {
        if (!text.has(i)) {
            return UNKNOWN;
        }
        switch (what) {
            case 0: return freshSetting().layout.pages.firstPage[i];
            case 1: return freshSetting().layout.lines[i];
            case 2: return freshSetting().layout.pages.lastPage[i];
            default: return OUTSIDE;
        }
    }

    public int used(int p) {
        Setting fresh = freshSetting();
        if (p < 1 || p > fresh.pagesInAll()) {
            return UNKNOWN;
        }
        return fresh.layout.pages.taken[p];
    }

    public int round(int r) {
        Setting fresh = freshSetting();
        if (r < 0 || r > fresh.last) {
            return OUTSIDE;
        }
        return fresh.pagesOfRound[r];
    }

    public int list(int i, int k) {
        if (!text.has(i)) {
            return UNKNOWN;
        }
        Item item = text.items[i];
        if (!item.isList()) {
            return NOT;
        }
        return text.listed(item, k);
    }

    public int best(int a, int b, int what) {
        if (a < LEAST_HEIGHT || b > MOST_HEIGHT || b < a || b - a >= MOST_HEIGHTS_TRIED || what < 0 || what > 1) {
            return OUTSIDE;
        }
        int bestHeight = NONE;
        int fewest = NONE;
        for (int height = a; height <= b; height++) {
            trial.settle(text, height);
            boolean fewer = fewest == NONE || trial.pagesInAll() < fewest;
            if (trial.outcome == SETTLED && fewer) {
                bestHeight = height;
                fewest = trial.pagesInAll();
            }
        }
        return what == 0 ? bestHeight : fewest;
    }

    // ---- calls

    public int means(int m) {
        return isMark(m) ? text.meaning(m) : OUTSIDE;
    }

    public int called(int i) {
        return text.has(i) ? text.countCallsOf(i) : UNKNOWN;
    }

    public int far(int i, int j) {
        if (!text.has(i) || !text.has(j)) {
            return UNKNOWN;
        }
        sections.join(text, freshNumbers());
        return sections.fewestCalls(numbers.section[i], numbers.section[j]);
    }

    public int knotted(int i) {
        if (!text.has(i)) {
            return UNKNOWN;
        }
        sections.join(text, freshNumbers());
        return sections.countKnots(numbers.section[i]);
    }

    // ---- versions

    public int keep(int v) {
        if (v < 0 || v >= VERSIONS) {
            return UNKNOWN;
        }
        versions[v].become(text);
        kept[v] = true;
        return text.size;
    }

    public int back(int v) {
        if (!isKept(v)) {
            return UNKNOWN;
        }
        text.become(versions[v]);
        settingStands = false;
        return text.size;
    }

    public int beside(int v, int what) {
        if (!isKept(v)) {
            return UNKNOWN;
        }
        if (what < 0 || what > 4) {
            return OUTSIDE;
        }
        trial.settle(versions[v], versions[v].style.height());
        return Comparison.countChanges(freshSetting(), trial, what);
    }

    // ---- style

    public int feed(int n, long bytes) {
        if (n < 1 || n > 8) {
            return OUTSIDE;
        }
        if (reader.length + n > Reader.MOST_BYTES) {
            return FULL;
        }
        reader.append(n, bytes);
        return reader.length;
    }

    public int read() {
        int clauses = reader.parse();
        if (reader.faultNumber != 0) {
            return -10 - reader.faultNumber;
        }
        text.style.become(reader.draft);
        settingStands = false;
        return clauses;
    }

    public int fault() {
        return reader.faultAt;
    }

    public int style(int what) {
        return what < 0 || what >= Style.VALUES ? OUTSIDE : text.style.values[what];
    }

    // ---- what the calls share

    private static boolean isMark(int m) {
        return m >= 0 && m < MOST_MARKS;
    }

    private static boolean hasMeasure(int kind) {
        return kind == HEADING || kind == LIST_OF_HEADINGS || kind == FIGURE || kind == TABLE;
    }

    private static boolean isMeasure(int kind, int a) {
        if (kind == HEADING || kind == LIST_OF_HEADINGS) {
            return a >= 1 && a <= LEVELS;
        }
        return !hasMeasure(kind) || (a >= 1 && a <= MOST_LINES_OF_FIGURE);
    }

    private static boolean isPiece(int kind, int a, int b) {
        switch (kind) {
            case WORD: return a >= 1 && a <= MOST_LETTERS_OF_WORD;
            case CALL: return isMark(a) && b >= BY_NUMBER && b <= BY_PLACE;
            case NOTE: return a >= 1 && a <= MOST_LINES_OF_NOTE;
            default: return false;
        }
    }

    private boolean isKept(int v) {
        return v >= 0 && v < VERSIONS && kept[v];
    }

    private Numbers freshNumbers() {
        numbers.countAll(text);
        return numbers;
    }

    private Setting freshSetting() {
        if (!settingStands) {
            setting.settle(text, text.style.height());
            settingStands = true;
        }
        return setting;
    }

    /** How a text looks, in the order in which the document asks for it. */
    private static final class Style {
        static final int VALUES = 13;
        static final int HEIGHT = 0, WIDTH = 1, FORM = 2, LONG = 6, FIGURES_ANEW = 10, NOTES_ANEW = 11,
                CHAPTERS_NEW = 12;

        final int[] values = new int[VALUES];

        Style() {
            becomeFirst();
        }

        void becomeFirst() {
            Arrays.fill(values, 0);
            values[HEIGHT] = FIRST_HEIGHT;
            values[WIDTH] = FIRST_WIDTH;
            Arrays.fill(values, LONG, LONG + LEVELS, 1);
        }

        void become(Style other) {
            System.arraycopy(other.values, 0, values, 0, VALUES);
        }

        int height() {
            return values[HEIGHT];
        }

        int width() {
            return values[WIDTH];
        }

        /** Levels go from 1 to 4. */
        int form(int level) {
            return values[FORM + level - 1];
        }

        boolean isLong(int level) {
            return values[LONG + level - 1] == 1;
        }

        boolean figuresAnew() {
            return values[FIGURES_ANEW] == 1;
        }

        boolean notesAnew() {
            return values[NOTES_ANEW] == 1;
        }

        boolean chaptersNew() {
            return values[CHAPTERS_NEW] == 1;
        }
    }

    /** One item; the pieces are used by paragraphs alone. */
    private static final class Item {
        final int[] pieceKind = new int[MOST_PIECES_OF_ITEM];
        final int[] pieceA = new int[MOST_PIECES_OF_ITEM];
        final int[] pieceB = new int[MOST_PIECES_OF_ITEM];
        int name, kind, measure, mark, pieces;

        void begin(int newName, int newKind, int newMeasure) {
            name = newName;
            kind = newKind;
            measure = newMeasure;
            mark = NONE;
            pieces = 0;
        }

        void become(Item other) {
            begin(other.name, other.kind, other.measure);
            mark = other.mark;
            pieces = other.pieces;
            System.arraycopy(other.pieceKind, 0, pieceKind, 0, pieces);
            System.arraycopy(other.pieceA, 0, pieceA, 0, pieces);
            System.arraycopy(other.pieceB, 0, pieceB, 0, pieces);
        }

        void append(int newKind, int a, int b) {
            if (pieces < MOST_PIECES_OF_ITEM) {
                pieceKind[pieces] = newKind;
                pieceA[pieces] = a;
                pieceB[pieces] = b;
                pieces++;
            }
        }

        boolean isList() {
            return kind >= LIST_OF_HEADINGS && kind <= LIST_OF_TABLES;
        }

        boolean callsMark(int k, int called) {
            return pieceKind[k] == CALL && pieceA[k] == called;
        }

        boolean floats() {
            return kind == FIGURE || kind == TABLE;
        }
    }

    /** The row of items with its style. Items behind the size are spare ones, used again. */
    private static final class Text {
        final Item[] items = new Item[MOST_ITEMS];
        final Style style = new Style();
        int size = 0;

        Text() {
            for (int i = 0; i < MOST_ITEMS; i++) {
                items[i] = new Item();
            }
        }

        boolean has(int i) {
            return i >= 0 && i < size;
        }

        void insert(int i, int name, int kind, int measure) {
            if (size < MOST_ITEMS && i >= 0 && i <= size) {
                items[size].begin(name, kind, measure);
                shift(size, i);
                size++;
            }
        }

        void takeOut(int i) {
            if (has(i)) {
                shift(i, size - 1);
                size--;
            }
        }

        /** The item at one place comes to the other; those between make room. */
        void shift(int from, int to) {
            Item moved = items[from];
            for (int i = from; i < to; i++) {
                items[i] = items[i + 1];
            }
            for (int i = from; i > to; i--) {
                items[i] = items[i - 1];
            }
            items[to] = moved;
        }

        void become(Text other) {
            size = other.size;
            for (int i = 0; i < size; i++) {
                items[i].become(other.items[i]);
            }
            style.become(other.style);
        }

        int placeOfName(int name) {
            for (int i = 0; i < size; i++) {
                if (items[i].name == name) {
                    return i;
                }
            }
            return NONE;
        }

        int meaning(int mark) {
            for (int i = 0; i < size; i++) {
                if (items[i].mark == mark) {
                    return i;
                }
            }
            return NONE;
        }

        int meantBy(Item item, int k) {
            return item.pieceKind[k] == CALL ? meaning(item.pieceA[k]) : NONE;
        }

        boolean lists(Item list, Item item) {
            switch (list.kind) {
                case LIST_OF_HEADINGS: return item.kind == HEADING && item.measure <= list.measure;
                case LIST_OF_FIGURES: return item.kind == FIGURE;
                case LIST_OF_TABLES: return item.kind == TABLE;
                default: return false;
            }
        }

        int listed(Item list, int k) {
            int before = 0;
            for (int i = 0; i < size; i++) {
                if (lists(list, items[i])) {
                    if (before == k) {
                        return i;
                    }
                    before++;
                }
            }
            return NONE;
        }

        int countListed(Item list) {
            int listed = 0;
            for (int i = 0; i < size; i++) {
                if (lists(list, items[i])) {
                    listed++;
                }
            }
            return listed;
        }

        int countAllPieces() {
            int pieces = 0;
            for (int i = 0; i < size; i++) {
                pieces += items[i].pieces;
            }
            return pieces;
        }

        int countPieces(int kind) {
            int pieces = 0;
            for (int i = 0; i < size; i++) {
                for (int k = 0; k < items[i].pieces; k++) {
                    if (items[i].pieceKind[k] == kind) {
                        pieces++;
                    }
                }
            }
            return pieces;
        }

        int countVainCalls() {
            int vain = 0;
            for (int i = 0; i < size; i++) {
                for (int k = 0; k < items[i].pieces; k++) {
                    if (items[i].pieceKind[k] == CALL && meantBy(items[i], k) == NONE) {
                        vain++;
                    }
                }
            }
            return vain;
        }

        /** The mark that means the item; NONE if it has none, or one ahead of it has the same. */
        private int markThatMeans(int place) {
            int mark = items[place].mark;
            return mark != NONE && meaning(mark) == place ? mark : NONE;
        }

        int countCallsOf(int place) {
            int mark = markThatMeans(place);
            int calls = 0;
            for (int i = 0; i < size; i++) {
                for (int k = 0; k < items[i].pieces; k++) {
                    if (items[i].callsMark(k, mark)) {
                        calls++;
                    }
                }
            }
            return calls;
        }

        int countMarksToldTwice() {
            int twice = 0;
            for (int m = 0; m < MOST_MARKS; m++) {
                int bearers = 0;
                for (int i = 0; i < size; i++) {
                    if (items[i].mark == m) {
                        bearers++;
                    }
                }
                if (bearers > 1) {
                    twice++;
                }
            }
            return twice;
        }

        /** The place of the first paragraph that calls the item. */
        private int firstCallerOf(int place) {
            int mark = markThatMeans(place);
            for (int i = 0; i < size; i++) {
                for (int k = 0; k < items[i].pieces; k++) {
                    if (items[i].callsMark(k, mark)) {
                        return i;
                    }
                }
            }
            return NONE;
        }

        int countLonely() {
            int lonely = 0;
            for (int i = 0; i < size; i++) {
                if (items[i].floats() && firstCallerOf(i) == NONE) {
                    lonely++;
                }
            }
            return lonely;
        }

        int countLate() {
            int late = 0;
            for (int i = 0; i < size; i++) {
                if (items[i].floats() && firstCallerOf(i) > i) {
                    late++;
                }
            }
            return late;
        }
    }

    /** How many letters a count is said with. */
    private static final class Saying {
        private static final int BY_FIGURES = 0, BY_LETTERS = 1, BY_ROMAN = 2;
        private static final int[] ROMAN_LETTERS = {0, 1, 2, 3, 2, 1, 2, 3, 4, 2};

        static int said(int n, int form) {
            if (n <= 0) {
                return 1;
            }
            if (form == BY_LETTERS) {
                return letters(n);
            }
            return form == BY_ROMAN ? roman(n) : figures(n);
        }

        static int figures(int n) {
            int figures = 1;
            for (int rest = n / 10; rest > 0; rest /= 10) {
                figures++;
            }
            return figures;
        }

        private static int letters(int n) {
            int letters = 0;
            for (int rest = n; rest > 0; rest = (rest - 1) / 26) {
                letters++;
            }
            return letters;
        }

        private static int roman(int n) {
            return n / 100 + ROMAN_LETTERS[n / 10 % 10] + ROMAN_LETTERS[n % 10];
        }
    }

    /** The numbers of all items of a text. */
    private static final class Numbers {
        /** The place of the heading of an item's section. */
        final int[] section = new int[MOST_ITEMS];
        final int[] own = new int[MOST_ITEMS];
        final int[] said = new int[MOST_ITEMS];
        private final int[] rows = new int[MOST_ITEMS * LEVELS];
        private final int[] running = new int[LEVELS];
        private int figures, tables;

        void countAll(Text text) {
            Arrays.fill(running, 0);
            figures = 0;
            tables = 0;
            int heading = NONE;
            for (int i = 0; i < text.size; i++) {
                Item item = text.items[i];
                if (item.kind == HEADING) {
                    heading = i;
                    countHeading(item.measure, text.style.figuresAnew());
                }
                section[i] = heading;
                own[i] = ownCount(item);
                writeRow(i, heading == NONE ? 1 : text.items[heading].measure);
                said[i] = item.kind == HEADING ? sayHeading(item.measure, text.style) : sayOther(i, item, text.style);
            }
        }

        private void countHeading(int level, boolean figuresAnew) {
            running[level - 1]++;
            Arrays.fill(running, level, LEVELS, 0);
            if (level == 1 && figuresAnew) {
                figures = 0;
                tables = 0;
            }
        }

        private int ownCount(Item item) {
            switch (item.kind) {
                case HEADING:
                    return running[item.measure - 1];
                case FIGURE:
                    figures++;
                    return figures;
                case TABLE:
                    tables++;
                    return tables;
                default:
                    return 0;
            }
        }

        private void writeRow(int i, int length) {
            for (int k = 0; k < LEVELS; k++) {
                rows[i * LEVELS + k] = k < length ? running[k] : NONE;
            }
        }

        private int sayHeading(int level, Style style) {
            int letters = Saying.said(running[level - 1], style.form(level));
            if (style.isLong(level)) {
                for (int ahead = 1; ahead < level; ahead++) {
                    letters += Saying.said(running[ahead - 1], style.form(ahead)) + 1;
                }
            }
            return letters;
        }

        private int sayOther(int i, Item item, Style style) {
            if (item.floats()) {
                int chapter = style.figuresAnew() ? Saying.said(running[0], style.form(1)) + 1 : 0;
                return chapter + Saying.figures(own[i]);
            }
            return section[i] == NONE ? 1 : said[section[i]];
        }

        /** Levels go from 1 to 4. */
        int countOf(int i, int level) {
            return rows[i * LEVELS + level - 1];
        }

        boolean isLike(int i, Numbers other, int j) {
            for (int level = 1; level <= LEVELS; level++) {
                if (countOf(i, level) != other.countOf(j, level)) {
                    return false;
                }
            }
            return own[i] == other.own[j];
        }
    }

    /** The pages of one round: what is taken on each, what stands where, and what waits. */
    private static final class Pages {
        final int[] taken = new int[MOST_PAGES + 1];
        final int[] firstPage = new int[MOST_ITEMS];
        final int[] lastPage = new int[MOST_ITEMS];
        private final int[] waitingPlace = new int[MOST_ITEMS];
        private final int[] waitingLines = new int[MOST_ITEMS];
        int last = 1;
        private int height, waitFrom, waitTo;

        void begin(int newHeight) {
            height = newHeight;
            last = 1;
            taken[last] = 0;
            waitFrom = 0;
            waitTo = 0;
        }

        int takenOfLast() {
            return taken[last];
        }

        void turn() {
            if (last < MOST_PAGES) {
                last++;
            }
            taken[last] = 0;
            while (waitFrom < waitTo && taken[last] + waitingLines[waitFrom] <= height) {
                firstPage[waitingPlace[waitFrom]] = last;
                lastPage[waitingPlace[waitFrom]] = last;
                taken[last] += waitingLines[waitFrom];
                waitFrom++;
            }
        }

        /** Each turn sets one that waits or leaves the page empty, so there are few of them. */
        void makeRoom(int lines) {
            for (int turns = 0; turns <= MOST_ITEMS; turns++) {
                if (taken[last] == 0 || taken[last] + lines <= height) {
                    return;
                }
                turn();
            }
        }

        void take(int lines) {
            taken[last] += lines;
        }

        void standHere(int place) {
            firstPage[place] = last;
            lastPage[place] = last;
        }

        void setOrWait(int place, int lines) {
            if (waitFrom == waitTo && taken[last] + lines <= height) {
                standHere(place);
                take(lines);
            } else if (waitTo < MOST_ITEMS) {
                waitingPlace[waitTo] = place;
                waitingLines[waitTo] = lines;
                waitTo++;
            }
        }

        void setAllThatWait() {
            for (int turns = 0; turns < MOST_ITEMS && waitFrom < waitTo; turns++) {
                turn();
            }
        }
    }

    /** The lines of one round, and the pages on which they come. */
    private static final class Layout {
        private static final int[] HEADING_LINES = {3, 2, 1, 1};
        private static final int LINES_KEPT_WITH_HEADING = 2;

        final Pages pages = new Pages();
        /** Pieces are numbered through the whole text; here the first one of each item. */
        final int[] first = new int[MOST_ITEMS];
        final int[] lines = new int[MOST_ITEMS];
        private final int[] pieceLine = new int[MOST_PIECES];
        private final int[] piecePage = new int[MOST_PIECES];
        private final int[] needs = new int[MOST_ITEMS];
        private final int[] linePage = new int[MOST_ITEMS];

        /** How many pieces there are. */
        int numberPieces(Text text) {
            int pieces = 0;
            for (int i = 0; i < text.size; i++) {
                first[i] = pieces;
                pieces += text.items[i].pieces;
            }
            return pieces;
        }

        void layOut(Text text, int height, int[] letters) {
            pages.begin(height);
            for (int i = 0; i < text.size; i++) {
                Item item = text.items[i];
                if (item.kind == HEADING) {
                    layHeading(i, item.measure, text.style.chaptersNew());
                } else if (item.kind == PARAGRAPH) {
                    lines[i] = breakLines(item, first[i], letters, text.style.width());
                    layLines(i);
                    spreadPages(first[i], item.pieces);
                } else if (item.floats()) {
                    lines[i] = item.measure;
                    pages.setOrWait(i, item.measure);
                } else {
                    lines[i] = text.countListed(item);
                    Arrays.fill(needs, 1);
                    layLines(i);
                }
            }
            pages.setAllThatWait();
        }

        private void layHeading(int i, int level, boolean chaptersNew) {
            lines[i] = HEADING_LINES[level - 1];
            if (level == 1 && chaptersNew && pages.takenOfLast() != 0) {
                pages.turn();
            }
            pages.makeRoom(lines[i] + LINES_KEPT_WITH_HEADING);
            pages.standHere(i);
            pages.take(lines[i]);
        }

        /** How many lines the pieces make; each line's needs are written down. */
        private int breakLines(Item item, int from, int[] letters, int width) {
            int line = 0;
            int filled = 0;
            needs[0] = 1;
            for (int k = 0; k < item.pieces; k++) {
                boolean isNote = item.pieceKind[k] == NOTE;
                int wanted = letters[from + k];
                int gap = isNote || k == 0 ? 0 : 1;
                if (k > 0 && filled + gap + wanted > width) {
                    line++;
                    needs[line] = 1;
                    filled = wanted;
                } else {
                    filled += gap + wanted;
                }
                if (isNote) {
                    needs[line] += item.pieceA[k];
                }
                pieceLine[from + k] = line;
            }
            return item.pieces == 0 ? 0 : line + 1;
        }

        /** The first line is not left alone at the foot of a page when a second one follows. */
        private void layLines(int i) {
            pages.standHere(i);
            for (int line = 0; line < lines[i] && line < MOST_ITEMS; line++) {
                boolean heldWithNext = line == 0 && lines[i] > 1;
                pages.makeRoom(heldWithNext ? needs[0] + needs[1] : needs[line]);
                if (line == 0) {
                    pages.standHere(i);
                }
                pages.take(needs[line]);
                linePage[line] = pages.last;
                pages.lastPage[i] = pages.last;
            }
        }

        private void spreadPages(int from, int pieces) {
            for (int p = from; p < from + pieces; p++) {
                piecePage[p] = linePage[pieceLine[p]];
            }
        }

        int pageOfPiece(int i, int k) {
            return piecePage[first[i] + k];
        }

        int lineOfPiece(int i, int k) {
            return pieceLine[first[i] + k];
        }
    }

    /** A text set round by round, with what its calls and notes say. */
    private static final class Setting {
        private static final int CALL_AT_FIRST = 2, NOTE_AT_FIRST = 1;
        private static final int SAID_IN_VAIN = 2, SAID_HERE = 4, SAID_NEXT = 9, SAID_ELSEWHERE = 5;

        final Layout layout = new Layout();
        final Numbers numbers = new Numbers();
        final int[] pagesOfRound = new int[LAST_ROUND + 1];
        private final int[][] lettersOfRounds;
        private final int[] letters = new int[MOST_PIECES];
        private final int[] said = new int[MOST_PIECES];
        private final int[] noteCount = new int[MOST_PIECES];
        private final int[] meant = new int[MOST_PIECES];
        Text text;
        int outcome, last, period;
        private int pieces;

        Setting(Text first, int[][] sharedLetters) {
            text = first;
            lettersOfRounds = sharedLetters;
        }

        void settle(Text newText, int height) {
            text = newText;
            numbers.countAll(text);
            begin();
            for (int k = 0; k <= LAST_ROUND; k++) {
                last = k;
                System.arraycopy(letters, 0, lettersOfRounds[k], 0, pieces);
                layout.layOut(text, height, letters);
                pagesOfRound[k] = pagesInAll();
                countNotes();
                sayAll();
                int like = roundSaidLike(k);
                if (like != NONE) {
                    outcome = like == k ? SETTLED : GOES_ROUND;
                    period = like == k ? 0 : k + 1 - like;
                    return;
                }
                if (k < LAST_ROUND) {
                    System.arraycopy(said, 0, letters, 0, pieces);
                }
            }
            outcome = OPEN;
            period = 0;
        }

        private void begin() {
            pieces = layout.numberPieces(text);
            for (int i = 0; i < text.size; i++) {
                Item item = text.items[i];
                for (int k = 0; k < item.pieces; k++) {
                    int p = layout.first[i] + k;
                    meant[p] = text.meantBy(item, k);
                    letters[p] = lettersAtFirst(item, k);
                }
            }
        }

        private int lettersAtFirst(Item item, int k) {
            switch (item.pieceKind[k]) {
                case CALL: return CALL_AT_FIRST;
                case NOTE: return NOTE_AT_FIRST;
                default: return item.pieceA[k];
            }
        }

        private void countNotes() {
            int notes = 0;
            int pageOfNotes = NONE;
            for (int i = 0; i < text.size; i++) {
                Item item = text.items[i];
                for (int k = 0; k < item.pieces; k++) {
                    int p = layout.first[i] + k;
                    noteCount[p] = 0;
                    if (item.pieceKind[k] == NOTE) {
                        int page = layout.pageOfPiece(i, k);
                        notes = text.style.notesAnew() && page != pageOfNotes ? 1 : notes + 1;
                        pageOfNotes = page;
                        noteCount[p] = notes;
                    }
                }
            }
        }

        private void sayAll() {
            for (int i = 0; i < text.size; i++) {
                Item item = text.items[i];
                for (int k = 0; k < item.pieces; k++) {
                    int p = layout.first[i] + k;
                    switch (item.pieceKind[k]) {
                        case CALL:
                            said[p] = sayCall(meant[p], item.pieceB[k], layout.pageOfPiece(i, k));
                            break;
                        case NOTE:
                            said[p] = Saying.figures(noteCount[p]);
                            break;
                        default:
                            said[p] = item.pieceA[k];
                    }
                }
            }
        }

        private int sayCall(int place, int way, int pageOfCall) {
            if (place == NONE) {
                return SAID_IN_VAIN;
            }
            if (way == BY_NUMBER) {
                return numbers.said[place];
            }
            int page = layout.pages.firstPage[place];
            if (way == BY_PAGE) {
                return Saying.figures(page) + 1;
            }
            int apart = Math.abs(page - pageOfCall);
            if (apart == 0) {
                return SAID_HERE;
            }
            return apart == 1 ? SAID_NEXT : SAID_ELSEWHERE;
        }

        /** The round up to k, k first, that had just the letters which are said now. */
        private int roundSaidLike(int k) {
            for (int j = k; j >= 0; j--) {
                if (areSaidNow(lettersOfRounds[j])) {
                    return j;
                }
            }
            return NONE;
        }

        private boolean areSaidNow(int[] lettersThen) {
            for (int p = 0; p < pieces; p++) {
                if (lettersThen[p] != said[p]) {
                    return false;
                }
            }
            return true;
        }

        int pagesInAll() {
            return text.size == 0 ? 0 : layout.pages.last;
        }

        /** In the last round. */
        int lettersOf(int i, int k) {
            return letters[layout.first[i] + k];
        }

        int noteCountOf(int i, int k) {
            return noteCount[layout.first[i] + k];
        }

        int nameMeant(int i, int k) {
            int place = meant[layout.first[i] + k];
            return place == NONE ? NONE : text.items[place].name;
        }
    }

    /** What has changed between two texts that are set. */
    private static final class Comparison {
        private static final int JUST_ONE = 0, NUMBER = 1, PAGE = 2, LETTERS = 3;

        static int countChanges(Setting now, Setting then, int what) {
            int inBoth = 0;
            int changes = 0;
            for (int i = 0; i < now.text.size; i++) {
                int j = then.text.placeOfName(now.text.items[i].name);
                if (j != NONE) {
                    inBoth++;
                    changes += countChangesOfItem(now, i, then, j, what);
                }
            }
            return what == JUST_ONE ? now.text.size + then.text.size - 2 * inBoth : changes;
        }

        private static int countChangesOfItem(Setting now, int i, Setting then, int j, int what) {
            switch (what) {
                case JUST_ONE:
                    return 0;
                case NUMBER:
                    return now.numbers.isLike(i, then.numbers, j) ? 0 : 1;
                case PAGE:
                    return now.layout.pages.firstPage[i] == then.layout.pages.firstPage[j] ? 0 : 1;
                default:
                    return countChangedCalls(now, i, then, j, what);
            }
        }

        private static int countChangedCalls(Setting now, int i, Setting then, int j, int what) {
            Item item = now.text.items[i];
            Item old = then.text.items[j];
            int changes = 0;
            for (int k = 0; k < item.pieces && k < old.pieces; k++) {
                if (item.pieceKind[k] == CALL && old.pieceKind[k] == CALL) {
                    boolean alike = what == LETTERS
                            ? now.lettersOf(i, k) == then.lettersOf(j, k)
                            : now.nameMeant(i, k) == then.nameMeant(j, k);
                    changes += alike ? 0 : 1;
                }
            }
            return changes;
        }
    }

    /** Which sections call which: sections are the bits of a long, that of NONE the lowest. */
    private static final class Sections {
        private static final int MOST_SECTIONS = MOST_ITEMS + 1;

        private final long[] calls = new long[MOST_SECTIONS];
        private final long[] callers = new long[MOST_SECTIONS];

        void join(Text text, Numbers numbers) {
            Arrays.fill(calls, 0L);
            Arrays.fill(callers, 0L);
            for (int i = 0; i < text.size; i++) {
                Item item = text.items[i];
                for (int k = 0; k < item.pieces; k++) {
                    int place = text.meantBy(item, k);
                    if (place != NONE) {
                        joinTwo(numbers.section[i] + 1, numbers.section[place] + 1);
                    }
                }
            }
        }

        private void joinTwo(int from, int to) {
            calls[from] |= 1L << to;
            callers[to] |= 1L << from;
        }

        /** Sections are told by the places of their headings. */
        int fewestCalls(int from, int to) {
            long reached = 1L << (from + 1);
            long goal = 1L << (to + 1);
            for (int steps = 0; steps <= MOST_SECTIONS; steps++) {
                if ((reached & goal) != 0) {
                    return steps;
                }
                reached = oneStepOn(reached, calls);
            }
            return NONE;
        }

        int countKnots(int section) {
            long own = 1L << (section + 1);
            return Long.bitCount(allReached(own, calls) & allReached(own, callers) & ~own);
        }

        private long allReached(long from, long[] edges) {
            long reached = from;
            for (int steps = 0; steps < MOST_SECTIONS; steps++) {
                long further = oneStepOn(reached, edges);
                if (further == reached) {
                    return reached;
                }
                reached = further;
            }
            return reached;
        }

        private long oneStepOn(long reached, long[] edges) {
            long further = reached;
            for (int s = 0; s < MOST_SECTIONS; s++) {
                if ((reached >>> s & 1L) != 0) {
                    further |= edges[s];
                }
            }
            return further;
        }
    }

    /** Takes the bytes of a style and reads them, up to the first fault. */
    private static final class Reader {
        static final int MOST_BYTES = 160;

        private static final int CANNOT_STAND = 1, BAD_NUMBER = 2, TOLD_ALREADY = 3;
        private static final int END = 0, LETTERS = 1, FIGURES = 2, SEMICOLON = 3, STRANGE = 4;
        private static final int CLAUSE_KINDS = 4, PAGE = 0, FIGURE_COUNT = 1, NOTE_COUNT = 2, CHAPTERS = 3;

        final Style draft = new Style();
        int length = 0;
        int faultNumber = 0;
        int faultAt = NONE;
        private final int[] bytes = new int[MOST_BYTES];
        private final boolean[] clauseTold = new boolean[CLAUSE_KINDS];
        private final boolean[] levelTold = new boolean[LEVELS + 1];
        private int token, tokenFrom, tokenTo;

        void append(int n, long eight) {
            for (int k = n - 1; k >= 0 && length < MOST_BYTES; k--) {
                bytes[length] = (int) (eight >>> (8 * k) & 255L);
                length++;
            }
        }

        /** How many clauses there are; the draft holds what they say. */
        int parse() {
            begin();
            int clauses = 0;
            for (int n = 0; n < MOST_BYTES && token != END && faultNumber == 0; n++) {
                parseClause();
                clauses++;
            }
            length = 0;
            return clauses;
        }

        private void begin() {
            draft.becomeFirst();
            faultNumber = 0;
            faultAt = NONE;
            for (int c = 0; c < CLAUSE_KINDS; c++) {
                clauseTold[c] = false;
            }
            for (int level = 0; level <= LEVELS; level++) {
                levelTold[level] = false;
            }
            tokenTo = 0;
            advance();
        }

        private void parseClause() {
            if (isWord("page")) {
                beginClause(PAGE);
                draft.values[Style.HEIGHT] = takeNumber(LEAST_HEIGHT, MOST_HEIGHT);
                takeWord("by");
                draft.values[Style.WIDTH] = takeNumber(LEAST_WIDTH, MOST_WIDTH);
            } else if (isWord("level")) {
                advance();
                parseLevel();
            } else if (isWord("figures")) {
                beginClause(FIGURE_COUNT);
                draft.values[Style.FIGURES_ANEW] = takeChoice("anew");
            } else if (isWord("notes")) {
                beginClause(NOTE_COUNT);
                draft.values[Style.NOTES_ANEW] = takeChoice("anew");
            } else if (isWord("chapters")) {
                beginClause(CHAPTERS);
                draft.values[Style.CHAPTERS_NEW] = takeChoice("new");
            } else {
                note(CANNOT_STAND);
            }
            takeSemicolon();
        }

        private void parseLevel() {
            int numberFrom = tokenFrom;
            int level = takeNumber(1, LEVELS);
            if (levelTold[level]) {
                noteAt(TOLD_ALREADY, numberFrom);
            }
            levelTold[level] = true;
            draft.values[Style.FORM + level - 1] = formHere();
            advance();
            boolean isLong = isWord("long");
            draft.values[Style.LONG + level - 1] = isLong ? 1 : 0;
            if (isLong) {
                advance();
            }
        }

        private void beginClause(int clause) {
            if (clauseTold[clause]) {
                note(TOLD_ALREADY);
            }
            clauseTold[clause] = true;
            advance();
        }

        /** Tokens are met in order, so the fault that is met first is the one to tell. */
        private void note(int number) {
            noteAt(number, tokenFrom);
        }

        private void noteAt(int number, int at) {
            if (faultNumber == 0) {
                faultNumber = number;
                faultAt = at;
            }
        }

        private int takeNumber(int least, int most) {
            if (token != FIGURES) {
                note(CANNOT_STAND);
                return least;
            }
            int value = tokenTo - tokenFrom > 2 ? NONE : valueOfToken();
            if (value < least || value > most) {
                note(BAD_NUMBER);
                return least;
            }
            advance();
            return value;
        }

        private int valueOfToken() {
            int value = 0;
            for (int p = tokenFrom; p < tokenTo; p++) {
                value = value * 10 + bytes[p] - '0';
            }
            return value;
        }

        private void takeWord(String word) {
            if (!isWord(word)) {
                note(CANNOT_STAND);
                return;
            }
            advance();
        }

        /** 1 for the word that says anew, 0 for 'on'. */
        private int takeChoice(String word) {
            if (isWord(word)) {
                advance();
                return 1;
            }
            takeWord("on");
            return 0;
        }

        private int formHere() {
            if (isWord("letters")) {
                return Saying.BY_LETTERS;
            }
            if (isWord("roman")) {
                return Saying.BY_ROMAN;
            }
            if (!isWord("figures")) {
                note(CANNOT_STAND);
            }
            return Saying.BY_FIGURES;
        }

        private void takeSemicolon() {
            if (token != SEMICOLON) {
                note(CANNOT_STAND);
                return;
            }
            advance();
        }

        private boolean isWord(String word) {
            if (token != LETTERS || tokenTo - tokenFrom != word.length()) {
                return false;
            }
            for (int p = tokenFrom; p < tokenTo; p++) {
                if (bytes[p] != word.charAt(p - tokenFrom)) {
                    return false;
                }
            }
            return true;
        }

        /** Goes to the token behind this one. */
        private void advance() {
            int at = tokenTo;
            while (at < length && bytes[at] == ' ') {
                at++;
            }
            tokenFrom = at;
            token = at < length ? sortOf(bytes[at]) : END;
            if (at < length) {
                at++;
            }
            while (at < length && (token == LETTERS || token == FIGURES) && sortOf(bytes[at]) == token) {
                at++;
            }
            tokenTo = at;
        }

        private static int sortOf(int sign) {
            if (sign >= 'a' && sign <= 'z') {
                return LETTERS;
            }
            if (sign >= '0' && sign <= '9') {
                return FIGURES;
            }
            return sign == ';' ? SEMICOLON : STRANGE;
        }
    }
}
