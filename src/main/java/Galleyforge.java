import java.util.ArrayList;
import java.util.Arrays;

/** A maker of pages; ../shared/DOC.md says what each call does. */
public final class Galleyforge {
    public static final int NONE = -1;
    public static final int PARAGRAPH = 0, HEADING = 1, COLUMNS = 2, TABLE = 3, BREAK = 4, CONTENTS = 5, INDEX = 6;
    public static final int NOTE = 0, MENTION = 1, LABEL = 2, TERM = 3, ONLY = 4;
    public static final int INDENT = 0, NUMBERED = 1, KEEP = 2, LEVEL = 3, SIDE = 4, DEPTH = 5, VARIANT = 6;

    private static final int VARIANTS = 2;
    private static final int[] LETTER_WIDTHS = {2, 3, 4, 6};
    private static final int MOST_LETTERS = 6;
    private static final int MARKS = 5;
    private static final int MOST_NOTE_LINES = 5;
    private static final int LABELS = 6;
    private static final int TERMS = 8;
    private static final int MOST_KEY = 999;
    private static final int MOST_PATTERNS = 8;
    private static final int MOST_PATTERN_LETTERS = 3;
    private static final int MOST_LEVEL = 5;

    private static final int MOST_BLOCKS = 16;
    private static final int MOST_WORDS = 12;
    private static final int STYLES = 7;
    private static final int MOST_SIDE = 30;
    private static final int MOST_DEPTH = 3;

    private static final int TABLE_ROWS = 4;
    private static final int TABLE_COLUMNS = 3;
    private static final int MOST_LEAST = 60;
    private static final int MOST_BEST = 200;

    private static final int MOST_FIGURES = 5;
    private static final int FIGURE_KINDS = 2;
    private static final int MOST_FIGURE_HEIGHT = 40;
    private static final int AT_TOP = 0, AT_BOTTOM = 1, WITHOUT_ROWS = 2;

    private static final int FIRST_WIDTH = 60, LEAST_WIDTH = 30, MOST_WIDTH = 120;
    private static final int FIRST_HEIGHT = 12, LEAST_HEIGHT = 6, MOST_HEIGHT = 40;

    /** A word of 6 letters has 3 gaps with two letters on each side, and its end. */
    private static final int MOST_PLACES = MOST_WORDS * 4;
    private static final int MOST_ROWS = MOST_BLOCKS * MOST_PLACES;
    /** One for each row, one for each figure, and those that the notes of all words need on the lowest paper. */
    private static final int MOST_PAGES = MOST_ROWS + MOST_FIGURES
            + MOST_BLOCKS * MOST_WORDS * MOST_NOTE_LINES / (LEAST_HEIGHT - 1);
    private static final int MOST_PLACES_BY_ALL = 12;

    private static final int HEADING_HEIGHT = 2;
    private static final int INDENT_WIDTH = 6;
    private static final int LEAST_LINE_WIDTH = 10;
    private static final int COLUMN_GAP = 4;
    private static final int DIGIT_WIDTH = 3;
    private static final int SPACE_WIDTH = 3;
    private static final int HYPHEN_WIDTH = 2;

    private static final int FIRST_STATES = 512;
    /** Far above what 512 calls can bring about, and not half of the room; see NOTES.md. */
    private static final int MOST_STATES = 260000;

    /** The digits of all labels together are one number with two bits for each label: no label's page has four digits. */
    private static final int DIGITS_BITS = 2;
    private static final int DIGITS_MASK = 3;
    private static final int ONE_DIGIT_EACH = 0b010101010101;
    /** There are 3 to the power of 6 digits for 6 labels, so that a round ahead must come again by then. */
    private static final int MOST_ROUNDS = 730;

    private final Text text;
    private final Layout[] layouts;
    private final int[] spelled;
    private int spelledCount;
    private final int[] drafted;

    public Galleyforge() {
        text = new Text();
        Lines lines = new Lines();
        States states = new States();
        layouts = new Layout[] {new Layout(text, 0, lines, states), new Layout(text, 1, lines, states)};
        spelled = new int[MOST_LETTERS];
        drafted = new int[MARKS];
        Arrays.fill(drafted, NONE);
    }

    // ---- words

    public int spell(int letter) throws IndexOutOfBoundsException, IllegalStateException {
        if (letter < 0 || letter >= LETTER_WIDTHS.length) {
            throw new IndexOutOfBoundsException("no such letter");
        }
        if (spelledCount >= MOST_LETTERS) {
            throw new IllegalStateException("six letters are spelled");
        }
        spelled[spelledCount] = letter;
        spelledCount++;
        return spelledCount;
    }

    public int unspell() {
        int had = spelledCount;
        spelledCount = 0;
        return had;
    }

    public int mark(int what, int value) throws IndexOutOfBoundsException, IllegalArgumentException {
        if (what < NOTE || what > ONLY) {
            throw new IndexOutOfBoundsException("no such thing to draft");
        }
        if (value != NONE && (value < leastMark(what) || value > mostMark(what))) {
            throw new IllegalArgumentException("not a value for this");
        }
        int was = drafted[what];
        drafted[what] = value;
        return was;
    }

    public int pattern(int gap, int level) throws IllegalArgumentException, IllegalStateException {
        if (gap < 0 || gap > spelledCount || level < 1 || level > MOST_LEVEL) {
            throw new IllegalArgumentException("gap or level out of range");
        }
        if (spelledCount == 0 || spelledCount > MOST_PATTERN_LETTERS) {
            throw new IllegalStateException("no text for a pattern");
        }
        if (text.patterns.size() >= MOST_PATTERNS) {
            throw new IllegalStateException("eight patterns are there");
        }
        text.addPattern(new Pattern(Arrays.copyOf(spelled, spelledCount), gap, level));
        spelledCount = 0;
        forgetLayouts();
        return text.patterns.size();
    }

    public int word(int place, int at) throws IndexOutOfBoundsException, IllegalStateException {
        Block block = blockAt(place);
        checkGapBetweenWords(block, at);
        checkRoomForWord(block);
        if (spelledCount == 0) {
            throw new IllegalStateException("nothing is spelled");
        }
        int[] letters = Arrays.copyOf(spelled, spelledCount);
        spelledCount = 0;
        return putIn(block, at, new Word(letters, NONE, drafted.clone()));
    }

    public int reference(int place, int at, int label) throws IndexOutOfBoundsException, IllegalStateException {
        Block block = blockAt(place);
        checkGapBetweenWords(block, at);
        checkLabel(label);
        checkRoomForWord(block);
        return putIn(block, at, new Word(new int[0], label, drafted.clone()));
    }

    public int take(int place, int at) throws IndexOutOfBoundsException {
        Block block = blockAt(place);
        checkWord(block, at);
        block.words.remove(at);
        forgetLayouts();
        return block.words.size();
    }

    // ---- blocks, figures, paper

    public int block(int place, int kind)
            throws IndexOutOfBoundsException, IllegalArgumentException, IllegalStateException {
        if (place < 0 || place > text.blocks.size()) {
            throw new IndexOutOfBoundsException("no such place");
        }
        if (kind < PARAGRAPH || kind > INDEX) {
            throw new IllegalArgumentException("no such kind");
        }
        if (text.blocks.size() >= MOST_BLOCKS) {
            throw new IllegalStateException("sixteen blocks are there");
        }
        text.blocks.add(place, new Block(kind));
        forgetLayouts();
        return text.blocks.size();
    }

    public int remove(int place) throws IndexOutOfBoundsException {
        checkBlock(place);
        text.blocks.remove(place);
        forgetLayouts();
        return text.blocks.size();
    }

    public int style(int place, int style, int value) throws IndexOutOfBoundsException, IllegalArgumentException {
        Block block = blockAt(place);
        if (style < INDENT || style > VARIANT) {
            throw new IndexOutOfBoundsException("no such style");
        }
        if (value < leastStyle(style) || value > mostStyle(style)) {
            throw new IllegalArgumentException("not a value for this style");
        }
        int was = block.styles[style];
        block.styles[style] = value;
        forgetLayouts();
        return was;
    }

    public int cell(int place, int row, int column, int span, int least, int best)
            throws IndexOutOfBoundsException, IllegalArgumentException, IllegalStateException {
        Block block = blockAt(place);
        if (row < 0 || row >= TABLE_ROWS || column < 0 || column >= TABLE_COLUMNS
                || span < 1 || span > TABLE_COLUMNS - column) {
            throw new IllegalArgumentException("no such cell");
        }
        if (least < 0 || least > MOST_LEAST || best < least || best > MOST_BEST) {
            throw new IllegalArgumentException("width out of range");
        }
        if (block.table == null) {
            throw new IllegalStateException("no table");
        }
        block.table.tell(row, column, span, least, best);
        forgetLayouts();
        return block.table.rowCount();
    }

    public int figure(int kind, int height) throws IllegalArgumentException, IllegalStateException {
        if (kind < 0 || kind >= FIGURE_KINDS || height < 1 || height > MOST_FIGURE_HEIGHT) {
            throw new IllegalArgumentException("kind or height out of range");
        }
        if (text.figureCount >= MOST_FIGURES) {
            throw new IllegalStateException("five figures are there");
        }
        int number = text.figureCount;
        text.figureKinds[number] = kind;
        text.figureHeights[number] = height;
        text.figureCount++;
        forgetLayouts();
        return number;
    }

    public int paper(int width, int height) throws IllegalArgumentException {
        if (width < LEAST_WIDTH || width > MOST_WIDTH || height < LEAST_HEIGHT || height > MOST_HEIGHT) {
            throw new IllegalArgumentException("width or height out of range");
        }
        int was = text.width;
        text.width = width;
        text.height = height;
        forgetLayouts();
        return was;
    }

    public int key(int term, int key) throws IndexOutOfBoundsException, IllegalArgumentException {
        checkTerm(term);
        if (key < 0 || key > MOST_KEY) {
            throw new IllegalArgumentException("key out of range");
        }
        int was = text.keys[term];
        text.keys[term] = key;
        return was;
    }

    // ---- what is asked: the text

    public int blocks() {
        return text.blocks.size();
    }

    public int words(int place) throws IndexOutOfBoundsException {
        return blockAt(place).words.size();
    }

    public int gaps(int place, int at) throws IndexOutOfBoundsException {
        Block block = blockAt(place);
        checkWord(block, at);
        return block.words.get(at).gapSet;
    }

    public int number(int variant, int place) throws IndexOutOfBoundsException {
        checkVariant(variant);
        Block block = blockAt(place);
        if (!block.isThere(variant)) {
            return NONE;
        }
        if (block.kind == HEADING) {
            return text.headingNumber(variant, place);
        }
        return block.isNumbered() ? text.paragraphNumber(variant, place) : 0;
    }

    public int columnWidth(int place, int column) throws IndexOutOfBoundsException {
        Table table = tableAt(place);
        if (column < 0 || column >= table.columnCount()) {
            throw new IndexOutOfBoundsException("no such column");
        }
        table.measure(text.width);
        return table.widths[column];
    }

    public int rowHeight(int place, int row) throws IndexOutOfBoundsException {
        Table table = tableAt(place);
        if (row < 0 || row >= table.rowCount()) {
            throw new IndexOutOfBoundsException("no such row");
        }
        table.measure(text.width);
        return table.heightOf(row);
    }

    // ---- what is asked: lines

    public int lines(int variant, int place) throws IndexOutOfBoundsException {
        checkVariant(variant);
        checkBlock(place);
        return layoutOf(variant).lineCounts[place];
    }

    public int lineEnd(int variant, int place, int line) throws IndexOutOfBoundsException {
        Layout layout = layoutOf(variant);
        checkLine(layout, place, line);
        return layout.lineEnds[place * MOST_PLACES + line];
    }

    public int tightness(int variant, int place, int line) throws IndexOutOfBoundsException {
        Layout layout = layoutOf(variant);
        checkLine(layout, place, line);
        return layout.lineClasses[place * MOST_PLACES + line];
    }

    public long demerits(int variant, int place) throws IndexOutOfBoundsException {
        checkVariant(variant);
        checkBlock(place);
        return layoutOf(variant).lineDemerits[place];
    }

    public long demeritsByAll(int variant, int place) throws IndexOutOfBoundsException {
        checkVariant(variant);
        checkBlock(place);
        return layoutOf(variant).demeritsByAllWays(place);
    }

    // ---- what is asked: pages

    public int pages(int variant) throws IndexOutOfBoundsException {
        return layoutOf(variant).pages.count;
    }

    public int cost(int variant) throws IndexOutOfBoundsException {
        return layoutOf(variant).pages.costs;
    }

    public int costAnew(int variant) throws IndexOutOfBoundsException {
        checkVariant(variant);
        layouts[variant].forget();
        return layoutOf(variant).pages.costs;
    }

    public int rounds(int variant) throws IndexOutOfBoundsException {
        return layoutOf(variant).rounds;
    }

    public boolean isSettled(int variant) throws IndexOutOfBoundsException {
        return layoutOf(variant).settled;
    }

    public int on(int variant, int page, int what) throws IndexOutOfBoundsException {
        Pages pages = layoutOf(variant).pages;
        checkPage(pages, page);
        switch (what) {
            case 0:
                return pages.rowCounts[page - 1];
            case 1:
                return pages.noteLines[page - 1];
            case 2:
                return pages.used[page - 1];
            default:
                throw new IndexOutOfBoundsException("nothing that a page has");
        }
    }

    public int head(int variant, int page) throws IndexOutOfBoundsException {
        Layout layout = layoutOf(variant);
        checkPage(layout.pages, page);
        return layout.headOf(page);
    }

    public int textAt(int variant, int page, int row) throws IndexOutOfBoundsException {
        Layout layout = layoutOf(variant);
        checkPage(layout.pages, page);
        if (row < 0 || row >= layout.pages.rowCounts[page - 1]) {
            throw new IndexOutOfBoundsException("no such row");
        }
        int which = layout.pages.firstRows[page - 1] + row;
        return 1000 * layout.rows.blocks[which] + layout.rows.indexes[which];
    }

    public int whereIs(int variant, int place, int at) throws IndexOutOfBoundsException {
        checkVariant(variant);
        checkWord(blockAt(place), at);
        Layout layout = layoutOf(variant);
        int row = layout.rows.wordRows[place * MOST_WORDS + at];
        if (row == NONE) {
            return NONE;
        }
        int page = layout.pages.pageOf(row);
        return 1000 * page + row - layout.pages.firstRows[page - 1];
    }

    public int figureAt(int variant, int figure) throws IndexOutOfBoundsException {
        checkVariant(variant);
        if (figure < 0 || figure >= text.figureCount) {
            throw new IndexOutOfBoundsException("no such figure");
        }
        return layoutOf(variant).pages.figuresAt[figure];
    }

    // ---- what is asked: references, contents, the index

    public int labelPage(int variant, int label) throws IndexOutOfBoundsException {
        checkVariant(variant);
        checkLabel(label);
        return layoutOf(variant).pageOfLabel(label);
    }

    public int contentsAt(int variant, int index) throws IndexOutOfBoundsException {
        Layout layout = layoutOf(variant);
        int place = layout.headingAt(index);
        if (place == NONE) {
            throw new IndexOutOfBoundsException("no such heading");
        }
        return 1000 * place + layout.pages.pageOf(layout.rows.firstRows[place]);
    }

    public int indexAt(int variant, int index) throws IndexOutOfBoundsException {
        int term = layoutOf(variant).termAt(index);
        if (term == NONE) {
            throw new IndexOutOfBoundsException("not so many terms");
        }
        return term;
    }

    public int range(int variant, int term, int index) throws IndexOutOfBoundsException {
        checkVariant(variant);
        checkTerm(term);
        int pagesOfRange = layoutOf(variant).rangeOf(term, index);
        if (pagesOfRange == NONE) {
            throw new IndexOutOfBoundsException("no such range");
        }
        return pagesOfRange;
    }

    // ---- what the calls share

    private static void checkVariant(int variant) {
        if (variant < 0 || variant >= VARIANTS) {
            throw new IndexOutOfBoundsException("no such variant");
        }
    }

    private static void checkLabel(int label) {
        if (label < 0 || label >= LABELS) {
            throw new IndexOutOfBoundsException("no such label");
        }
    }

    private static void checkTerm(int term) {
        if (term < 0 || term >= TERMS) {
            throw new IndexOutOfBoundsException("no such term");
        }
    }

    private static void checkPage(Pages pages, int page) {
        if (page < 1 || page > pages.count) {
            throw new IndexOutOfBoundsException("no such page");
        }
    }

    private static void checkWord(Block block, int at) {
        if (at < 0 || at >= block.words.size()) {
            throw new IndexOutOfBoundsException("no such word");
        }
    }

    private static void checkGapBetweenWords(Block block, int at) {
        if (at < 0 || at > block.words.size()) {
            throw new IndexOutOfBoundsException("no such place in the block");
        }
    }

    private static void checkRoomForWord(Block block) {
        if (!block.hasWords() || block.words.size() >= MOST_WORDS) {
            throw new IllegalStateException("no room for a word");
        }
    }

    private void checkBlock(int place) {
        if (place < 0 || place >= text.blocks.size()) {
            throw new IndexOutOfBoundsException("no such block");
        }
    }

    private Block blockAt(int place) {
        checkBlock(place);
        return text.blocks.get(place);
    }

    private Table tableAt(int place) {
        Table table = blockAt(place).table;
        if (table == null) {
            throw new IndexOutOfBoundsException("no table");
        }
        return table;
    }

    /** The lines and pages of a variant, with all rounds made. */
    private Layout layoutOf(int variant) {
        checkVariant(variant);
        Layout layout = layouts[variant];
        for (int k = 0; k <= MOST_ROUNDS && layout.goesOn; k++) {
            layout.makeRound();
        }
        return layout;
    }

    private void checkLine(Layout layout, int place, int line) {
        checkBlock(place);
        if (line < 0 || line >= layout.lineCounts[place]) {
            throw new IndexOutOfBoundsException("no such line");
        }
    }

    private int putIn(Block block, int at, Word made) {
        made.gapSet = text.gapsOf(made.letters);
        block.words.add(at, made);
        Arrays.fill(drafted, NONE);
        forgetLayouts();
        return block.words.size();
    }

    private void forgetLayouts() {
        for (int variant = 0; variant < VARIANTS; variant++) {
            layouts[variant].forget();
        }
    }

    private static int leastMark(int what) {
        return what == NOTE ? 1 : 0;
    }

    private int mostMark(int what) {
        switch (what) {
            case NOTE:
                return MOST_NOTE_LINES;
            case MENTION:
                return text.figureCount - 1;
            case LABEL:
                return LABELS - 1;
            case TERM:
                return TERMS - 1;
            default:
                return VARIANTS - 1;
        }
    }

    private static int leastStyle(int style) {
        switch (style) {
            case LEVEL:
                return 1;
            case VARIANT:
                return NONE;
            default:
                return 0;
        }
    }

    private static int mostStyle(int style) {
        switch (style) {
            case INDENT:
            case LEVEL:
                return 2;
            case SIDE:
                return MOST_SIDE;
            case DEPTH:
                return MOST_DEPTH;
            default:
                return 1;
        }
    }

    /** What is told: blocks, patterns, figures, keys and the paper. */
    private static final class Text {
        final ArrayList<Block> blocks = new ArrayList<>();
        final ArrayList<Pattern> patterns = new ArrayList<>();
        final int[] figureKinds = new int[MOST_FIGURES];
        final int[] figureHeights = new int[MOST_FIGURES];
        int figureCount;
        final int[] keys = new int[TERMS];
        int width = FIRST_WIDTH;
        int height = FIRST_HEIGHT;

        /** Words keep their gaps, since each round of each layout asks for them. */
        void addPattern(Pattern pattern) {
            patterns.add(pattern);
            for (int place = 0; place < blocks.size(); place++) {
                ArrayList<Word> words = blocks.get(place).words;
                for (int at = 0; at < words.size(); at++) {
                    Word word = words.get(at);
                    word.gapSet = gapsOf(word.letters);
                }
            }
        }

        int gapsOf(int[] letters) {
            int gapSet = 0;
            for (int gap = 2; gap <= letters.length - 2; gap++) {
                if (levelAt(letters, gap) % 2 == 1) {
                    gapSet |= 1 << gap;
                }
            }
            return gapSet;
        }

        private int levelAt(int[] letters, int gap) {
            int level = 0;
            for (int k = 0; k < patterns.size(); k++) {
                Pattern pattern = patterns.get(k);
                if (pattern.level > level && pattern.standsAt(letters, gap - pattern.gap)) {
                    level = pattern.level;
                }
            }
            return level;
        }

        int headingNumber(int variant, int place) {
            int first = 0;
            int second = 0;
            for (int k = 0; k <= place && k < blocks.size(); k++) {
                Block block = blocks.get(k);
                if (block.kind != HEADING || !block.isThere(variant)) {
                    continue;
                }
                if (block.styles[LEVEL] == 1) {
                    first++;
                    second = 0;
                } else {
                    second++;
                }
            }
            return 100 * first + second;
        }

        int paragraphNumber(int variant, int place) {
            int indent = blocks.get(place).styles[INDENT];
            int number = 1;
            for (int k = place - 1; k >= 0; k--) {
                Block block = blocks.get(k);
                if (!block.isThere(variant)) {
                    continue;
                }
                if (!block.isNumbered() || block.styles[INDENT] < indent) {
                    return number;
                }
                if (block.styles[INDENT] == indent) {
                    number++;
                }
            }
            return number;
        }
    }

    /** A text of letters with a gap and a level. */
    private static final class Pattern {
        final int[] letters;
        final int gap;
        final int level;

        Pattern(int[] letters, int gap, int level) {
            this.letters = letters;
            this.gap = gap;
            this.level = level;
        }

        boolean standsAt(int[] wordLetters, int from) {
            if (from < 0 || from > wordLetters.length - letters.length) {
                return false;
            }
            for (int k = 0; k < letters.length; k++) {
                if (wordLetters[from + k] != letters[k]) {
                    return false;
                }
            }
            return true;
        }
    }

    /** A text of letters, or a reference to a label, which has no letters; with what was drafted for it. */
    private static final class Word {
        final int[] letters;
        final int label;
        final int[] marks;
        int gapSet;

        Word(int[] letters, int label, int[] marks) {
            this.letters = letters;
            this.label = label;
            this.marks = marks;
        }

        boolean isThere(int variant) {
            return marks[ONLY] == NONE || marks[ONLY] == variant;
        }
    }

    private static final class Block {
        final int kind;
        final int[] styles = {0, 0, 0, 1, 0, 0, NONE};
        final ArrayList<Word> words = new ArrayList<>();
        final Table table;

        Block(int kind) {
            this.kind = kind;
            table = kind == TABLE ? new Table() : null;
        }

        boolean isThere(int variant) {
            return styles[VARIANT] == NONE || styles[VARIANT] == variant;
        }

        boolean hasLines() {
            return kind == PARAGRAPH || kind == COLUMNS;
        }

        boolean hasWords() {
            return hasLines() || kind == HEADING;
        }

        boolean isNumbered() {
            return kind == PARAGRAPH && styles[NUMBERED] == 1;
        }
    }

    /** The cells of a table; one with the span 0 is not told. */
    private static final class Table {
        final int[] spans = new int[TABLE_ROWS * TABLE_COLUMNS];
        final int[] leasts = new int[TABLE_ROWS * TABLE_COLUMNS];
        final int[] bests = new int[TABLE_ROWS * TABLE_COLUMNS];
        final int[] leastWidths = new int[TABLE_COLUMNS];
        final int[] bestWidths = new int[TABLE_COLUMNS];
        /** What the best widths of the columns are above their least ones. */
        final int[] wishes = new int[TABLE_COLUMNS];
        final int[] widths = new int[TABLE_COLUMNS];

        void tell(int row, int column, int span, int least, int best) {
            int cell = row * TABLE_COLUMNS + column;
            spans[cell] = span;
            leasts[cell] = least;
            bests[cell] = best;
        }

        int rowCount() {
            int rows = 0;
            for (int cell = 0; cell < spans.length; cell++) {
                if (spans[cell] > 0) {
                    rows = cell / TABLE_COLUMNS + 1;
                }
            }
            return rows;
        }

        int columnCount() {
            int columns = 0;
            for (int cell = 0; cell < spans.length; cell++) {
                if (spans[cell] > 0) {
                    columns = Math.max(columns, cell % TABLE_COLUMNS + spans[cell]);
                }
            }
            return columns;
        }

        /** Works out the widths of the columns for a paper of this width. */
        void measure(int paperWidth) {
            Arrays.fill(leastWidths, 0);
            Arrays.fill(bestWidths, 0);
            for (int span = 1; span <= TABLE_COLUMNS; span++) {
                for (int cell = 0; cell < spans.length; cell++) {
                    if (spans[cell] == span) {
                        shareOut(leastWidths, cell, leasts[cell]);
                        shareOut(bestWidths, cell, bests[cell]);
                    }
                }
            }
            fit(paperWidth);
        }

        private void shareOut(int[] columns, int cell, int wanted) {
            int span = spans[cell];
            int lack = wanted - sumOf(columns, cell);
            if (lack <= 0 || span < 1) {
                return;
            }
            int column = cell % TABLE_COLUMNS;
            for (int k = 0; k < span && column + k < TABLE_COLUMNS; k++) {
                columns[column + k] += lack / span + (k < lack % span ? 1 : 0);
            }
        }

        /** The widths of the columns that the cell takes, together. */
        private int sumOf(int[] columns, int cell) {
            int column = cell % TABLE_COLUMNS;
            int sum = 0;
            for (int k = 0; k < spans[cell] && column + k < TABLE_COLUMNS; k++) {
                sum += columns[column + k];
            }
            return sum;
        }

        private void fit(int paperWidth) {
            int least = 0;
            int best = 0;
            int allWishes = 0;
            for (int column = 0; column < TABLE_COLUMNS; column++) {
                least += leastWidths[column];
                best += bestWidths[column];
                wishes[column] = Math.max(0, bestWidths[column] - leastWidths[column]);
                allWishes += wishes[column];
            }
            if (best <= paperWidth) {
                System.arraycopy(bestWidths, 0, widths, 0, TABLE_COLUMNS);
            } else {
                System.arraycopy(leastWidths, 0, widths, 0, TABLE_COLUMNS);
                if (least < paperWidth) {
                    shareByWishes(paperWidth - least, allWishes);
                }
            }
        }

        private void shareByWishes(int extra, int allWishes) {
            if (allWishes <= 0) {
                return;
            }
            int over = extra;
            for (int column = 0; column < TABLE_COLUMNS; column++) {
                int share = extra * wishes[column] / allWishes;
                widths[column] += share;
                over -= share;
            }
            for (int column = 0; column < over && column < TABLE_COLUMNS; column++) {
                widths[column]++;
            }
        }

        /** The height of a row, as the table was measured last. */
        int heightOf(int row) {
            int height = 1;
            for (int column = 0; column < TABLE_COLUMNS; column++) {
                int cell = row * TABLE_COLUMNS + column;
                int width = sumOf(widths, cell);
                if (width > 0) {
                    height = Math.max(height, (bests[cell] + width - 1) / width);
                }
            }
            return height;
        }
    }

    /** Breaks one block into lines at a time: the places at which lines can end, and the ways over them. */
    private static final class Lines {
        /** Two ways from a place differ in the line ahead only by its class, or by there being none. */
        private static final int NO_LINE_AHEAD = 4;
        private static final int CLASSES_AHEAD = 5;
        private static final int LINES_AHEAD = MOST_DEPTH + 1;

        /** The places are told from 1 on; the place 0 is the beginning, at no gap. */
        int places;
        final int[] wordAt = new int[MOST_PLACES + 1];
        final int[] gapAt = new int[MOST_PLACES + 1];
        final int[] widthTo = new int[MOST_PLACES + 1];
        final int[] wordsTo = new int[MOST_PLACES + 1];
        private int width;
        private int narrowWidth;
        private int depth;
        /** Of the line that was judged last. */
        int spread;
        int lineClass;
        /** The best ways from a place on, for the lines and the class of the line ahead of it. */
        private final long[] bestDemerits = new long[(MOST_PLACES + 1) * LINES_AHEAD * CLASSES_AHEAD];
        private final int[] bestLines = new int[(MOST_PLACES + 1) * LINES_AHEAD * CLASSES_AHEAD];
        private final int[] bestEnds = new int[(MOST_PLACES + 1) * LINES_AHEAD * CLASSES_AHEAD];

        /** Takes up a block; digits are the digits of all labels. */
        void takeUp(Block block, int variant, int paperWidth, int digits) {
            places = 0;
            setWidths(block, paperWidth);
            if (!block.hasLines() || !block.isThere(variant)) {
                return;
            }
            for (int at = 0; at < block.words.size(); at++) {
                Word word = block.words.get(at);
                if (word.isThere(variant)) {
                    addWord(word, at, digits);
                }
            }
        }

        private void setWidths(Block block, int paperWidth) {
            width = (paperWidth - COLUMN_GAP) / 2;
            narrowWidth = width;
            depth = 0;
            if (block.kind == PARAGRAPH) {
                width = paperWidth - INDENT_WIDTH * block.styles[INDENT];
                narrowWidth = Math.max(LEAST_LINE_WIDTH, width - block.styles[SIDE]);
                depth = block.styles[DEPTH];
            }
            width = Math.max(LEAST_LINE_WIDTH, width);
        }

        private void addWord(Word word, int at, int digits) {
            int upTo = widthTo[places];
            int wordsAhead = wordsTo[places];
            for (int k = 0; k < word.letters.length; k++) {
                if ((word.gapSet >> k & 1) == 1) {
                    addPlace(at, k, upTo, wordsAhead);
                }
                upTo += LETTER_WIDTHS[word.letters[k]];
            }
            if (word.label != NONE) {
                upTo += DIGIT_WIDTH * (digits >> DIGITS_BITS * word.label & DIGITS_MASK);
            }
            addPlace(at, 0, upTo, wordsAhead + 1);
        }

        private void addPlace(int at, int gap, int upTo, int wordsAhead) {
            if (places < MOST_PLACES) {
                places++;
                wordAt[places] = at;
                gapAt[places] = gap;
                widthTo[places] = upTo;
                wordsTo[places] = wordsAhead;
            }
        }

        private int widthOf(int line) {
            return line < depth ? narrowWidth : width;
        }

        /** Works out spread and class of a line; tells whether there can be such a line. */
        private boolean judge(int from, int to, int lineWidth) {
            int spaces = wordsTo[to - 1] - wordsTo[from];
            int hyphen = gapAt[to] > 0 ? HYPHEN_WIDTH : 0;
            int lack = lineWidth - (widthTo[to] - widthTo[from] + SPACE_WIDTH * spaces + hyphen);
            if (lack >= 0 && (to == places || spaces == 0 && lack == 0)) {
                spread = 0;
                lineClass = 1;
            } else if (lack >= 0 && spaces == 0) {
                spread = 400;
                lineClass = 3;
            } else if (lack >= 0) {
                spread = spaces > 0 ? Math.min(400, 100 * lack / (2 * spaces)) : 400;
                lineClass = spread < 50 ? 1 : spread <= 100 ? 2 : 3;
            } else if (spaces > 0 && -lack <= spaces) {
                spread = 100 * -lack / spaces;
                lineClass = spread < 50 ? 1 : 0;
            } else {
                spread = 400;
                lineClass = 0;
                return to == from + 1;
            }
            return true;
        }

        /** The demerits of the line that was judged last, without those for the line ahead of it. */
        private long ownDemerits(int to) {
            long sum = 10 + spread * spread * spread / 10000 + (gapAt[to] > 0 ? 50 : 0);
            return sum * sum;
        }

        /** The demerits of the line that was judged last for the class of the line ahead of it, and for both their gaps. */
        private int demeritsForAhead(int from, int to, int ahead) {
            if (ahead == NO_LINE_AHEAD) {
                return 0;
            }
            int demerits = lineClass - ahead > 1 || ahead - lineClass > 1 ? 3000 : 0;
            return gapAt[from] > 0 && gapAt[to] > 0 ? demerits + 2000 : demerits;
        }

        private static int wayIndex(int place, int linesAhead, int ahead) {
            return (place * LINES_AHEAD + linesAhead) * CLASSES_AHEAD + ahead;
        }

        /** Finds the best ways from each place on to the end. */
        void findBestWays() {
            clearWaysFrom(places, 0);
            for (int from = places - 1; from >= 0; from--) {
                for (int linesAhead = 0; linesAhead <= depth; linesAhead++) {
                    clearWays(from, linesAhead, NONE);
                    tryLines(from, linesAhead);
                }
            }
        }

        private void tryLines(int from, int linesAhead) {
            for (int to = from + 1; to <= places; to++) {
                if (!judge(from, to, widthOf(linesAhead))) {
                    // a line that ends farther on is wider still, by more than its spaces give
                    return;
                }
                tryLine(from, to, linesAhead);
            }
        }

        private void clearWaysFrom(int place, int demerits) {
            for (int linesAhead = 0; linesAhead <= depth; linesAhead++) {
                clearWays(place, linesAhead, demerits);
            }
        }

        private void clearWays(int place, int linesAhead, int demerits) {
            for (int ahead = 0; ahead < CLASSES_AHEAD; ahead++) {
                int way = wayIndex(place, linesAhead, ahead);
                bestDemerits[way] = demerits;
                bestLines[way] = 0;
                bestEnds[way] = NONE;
            }
        }

        /** Ends are tried from the least one on, so that of equal ways the first one stays. */
        private void tryLine(int from, int to, int linesAhead) {
            long own = ownDemerits(to);
            int behind = wayIndex(to, Math.min(linesAhead + 1, depth), lineClass);
            for (int ahead = 0; ahead < CLASSES_AHEAD; ahead++) {
                int way = wayIndex(from, linesAhead, ahead);
                long sum = own + demeritsForAhead(from, to, ahead) + bestDemerits[behind];
                int count = bestLines[behind] + 1;
                if (bestDemerits[way] == NONE || sum < bestDemerits[way]
                        || sum == bestDemerits[way] && count < bestLines[way]) {
                    bestDemerits[way] = sum;
                    bestLines[way] = count;
                    bestEnds[way] = to;
                }
            }
        }

        long leastDemerits() {
            return bestDemerits[wayIndex(0, 0, NO_LINE_AHEAD)];
        }

        /** The end of the line from this place on, by the best way. */
        int bestEnd(int from, int line, int ahead) {
            int to = bestEnds[wayIndex(from, Math.min(line, depth), line == 0 ? NO_LINE_AHEAD : ahead)];
            if (to > from) {
                judge(from, to, widthOf(line));
            }
            return to;
        }

        /** The least demerits of all ways, each of them tried. */
        long leastByAllWays() {
            long least = places == 0 ? 0 : NONE;
            for (int ways = 0; places > 0 && places <= MOST_PLACES_BY_ALL && ways < 1 << (places - 1); ways++) {
                long sum = demeritsOf(ways);
                if (sum != NONE && (least == NONE || sum < least)) {
                    least = sum;
                }
            }
            return least;
        }

        /** A line ends at the place k + 1, if the bit k is 1; NONE, if there can be no such lines. */
        private long demeritsOf(int ways) {
            long sum = 0;
            int from = 0;
            int line = 0;
            int ahead = NO_LINE_AHEAD;
            for (int to = 1; to <= places; to++) {
                if (to < places && (ways >> (to - 1) & 1) == 0) {
                    continue;
                }
                if (!judge(from, to, widthOf(line))) {
                    return NONE;
                }
                sum += ownDemerits(to) + demeritsForAhead(from, to, ahead);
                ahead = lineClass;
                from = to;
                line++;
            }
            return sum;
        }
    }

    /** All rows of a variant's text, and what of words and figures hangs on them. */
    private static final class Rows {
        int count;
        final int[] heights = new int[MOST_ROWS];
        final int[] blocks = new int[MOST_ROWS];
        /** Which one of the rows of its block a row is. */
        final int[] indexes = new int[MOST_ROWS];
        final int[] noteLines = new int[MOST_ROWS];
        final int[] lastNotes = new int[MOST_ROWS];
        final boolean[] breakBehind = new boolean[MOST_ROWS];
        final int[] firstRows = new int[MOST_BLOCKS];
        final int[] rowCounts = new int[MOST_BLOCKS];
        final int[] wordRows = new int[MOST_BLOCKS * MOST_WORDS];
        final int[] labelRows = new int[LABELS];
        final boolean[] termThere = new boolean[TERMS];
        private int headings;
        private int terms;
        /** The rows that mention the figures; and the figures that are mentioned, in order. */
        final int[] figureRows = new int[MOST_FIGURES];
        private final int[] figureWords = new int[MOST_FIGURES];
        final int[] figuresInOrder = new int[MOST_FIGURES];
        int figureCount;

        void make(Text text, int variant, int[] lineCounts, int[] wordLines) {
            count = 0;
            countHeadingsAndTerms(text, variant);
            for (int place = 0; place < text.blocks.size(); place++) {
                Block block = text.blocks.get(place);
                firstRows[place] = count;
                if (block.table != null) {
                    block.table.measure(text.width);
                }
                if (block.isThere(variant)) {
                    addRowsOf(block, place, lineCounts[place]);
                }
                rowCounts[place] = count - firstRows[place];
            }
            placeWords(text, variant, wordLines);
            orderFigures(text.figureCount);
        }

        private void countHeadingsAndTerms(Text text, int variant) {
            headings = 0;
            terms = 0;
            forgetTerms();
            for (int place = 0; place < text.blocks.size(); place++) {
                Block block = text.blocks.get(place);
                if (!block.isThere(variant)) {
                    continue;
                }
                headings += block.kind == HEADING ? 1 : 0;
                for (int at = 0; at < block.words.size(); at++) {
                    Word word = block.words.get(at);
                    if (word.isThere(variant)) {
                        countTerm(word.marks[TERM]);
                    }
                }
            }
        }

        private void forgetTerms() {
            for (int term = 0; term < TERMS; term++) {
                termThere[term] = false;
            }
        }

        private void countTerm(int term) {
            if (term != NONE && !termThere[term]) {
                termThere[term] = true;
                terms++;
            }
        }

        private void addRowsOf(Block block, int place, int lineCount) {
            switch (block.kind) {
                case PARAGRAPH:
                    addRows(place, lineCount, 1);
                    break;
                case HEADING:
                    addRows(place, 1, HEADING_HEIGHT);
                    break;
                case COLUMNS:
                    addRows(place, halfOf(lineCount), 1);
                    break;
                case BREAK:
                    if (count > 0) {
                        breakBehind[count - 1] = true;
                    }
                    break;
                case CONTENTS:
                    addRows(place, headings, 1);
                    break;
                case INDEX:
                    addRows(place, terms, 1);
                    break;
                default:
                    addTableRows(block.table, place);
                    break;
            }
        }

        private static int halfOf(int lineCount) {
            return (lineCount + 1) / 2;
        }

        private void addTableRows(Table table, int place) {
            for (int row = 0; table != null && row < table.rowCount(); row++) {
                addRow(place, row, table.heightOf(row));
            }
        }

        private void addRows(int place, int rowsOfBlock, int height) {
            for (int index = 0; index < rowsOfBlock; index++) {
                addRow(place, index, height);
            }
        }

        private void addRow(int place, int index, int height) {
            if (count < MOST_ROWS) {
                heights[count] = height;
                blocks[count] = place;
                indexes[count] = index;
                noteLines[count] = 0;
                lastNotes[count] = 0;
                breakBehind[count] = false;
                count++;
            }
        }

        private void placeWords(Text text, int variant, int[] wordLines) {
            Arrays.fill(wordRows, NONE);
            Arrays.fill(labelRows, NONE);
            Arrays.fill(figureRows, NONE);
            for (int place = 0; place < text.blocks.size(); place++) {
                Block block = text.blocks.get(place);
                for (int at = 0; rowCounts[place] > 0 && at < block.words.size(); at++) {
                    Word word = block.words.get(at);
                    if (word.isThere(variant)) {
                        int index = place * MOST_WORDS + at;
                        int line = block.kind == HEADING ? 0 : wordLines[index];
                        // of columns, the row k has the line k and the line k + h, which only h rows are for
                        int row = firstRows[place] + (line < rowCounts[place] ? line : line - rowCounts[place]);
                        wordRows[index] = row;
                        markRow(row, index, word);
                    }
                }
            }
        }

        /** Words come in order, so that the last note of a row is the one that comes last. */
        private void markRow(int row, int index, Word word) {
            if (word.marks[NOTE] != NONE) {
                noteLines[row] += word.marks[NOTE];
                lastNotes[row] = word.marks[NOTE];
            }
            int label = word.marks[LABEL];
            if (label != NONE && (labelRows[label] == NONE || row < labelRows[label])) {
                labelRows[label] = row;
            }
            int figure = word.marks[MENTION];
            if (figure != NONE && (figureRows[figure] == NONE || row < figureRows[figure])) {
                figureRows[figure] = row;
                figureWords[figure] = index;
            }
        }

        private void orderFigures(int figures) {
            figureCount = 0;
            for (int figure = 0; figure < figures; figure++) {
                if (figureRows[figure] == NONE) {
                    continue;
                }
                int at = figureCount;
                for (; at > 0 && isAhead(figure, figuresInOrder[at - 1]); at--) {
                    figuresInOrder[at] = figuresInOrder[at - 1];
                }
                figuresInOrder[at] = figure;
                figureCount++;
            }
        }

        private boolean isAhead(int figure, int other) {
            return figureRows[figure] < figureRows[other]
                    || figureRows[figure] == figureRows[other] && figureWords[figure] < figureWords[other];
        }
    }

    /** One page in the making. Sets of figures have a bit for each place in the order of figures. */
    private static final class Page {
        private final Text text;
        private final Rows rows;
        private int row;
        private int count;
        private int wait;
        private int left;
        /** The heights of the figures at the top and of the rows, and the notes of the rows. */
        private int height;
        private int notes;
        private int lastNote;
        int topSet;
        int bottomSet;
        int waitNext;
        int leftNext;
        int noteLines;
        int used;

        Page(Text text, Rows rows) {
            this.text = text;
            this.rows = rows;
        }

        /** Begins a page with a row, the figures that wait, and the lines of notes that are left. */
        void open(int firstRow, int waiting, int leftLines) {
            row = firstRow;
            count = 0;
            wait = waiting;
            left = leftLines;
            height = 0;
            notes = 0;
            lastNote = 0;
            standAtTop();
        }

        private void standAtTop() {
            int blockedKinds = 0;
            topSet = 0;
            for (int k = 0; k < rows.figureCount; k++) {
                if ((wait >> k & 1) == 0) {
                    continue;
                }
                int figure = rows.figuresInOrder[k];
                int kind = 1 << text.figureKinds[figure];
                if ((blockedKinds & kind) == 0 && height + text.figureHeights[figure] <= text.height / 2) {
                    topSet |= 1 << k;
                    height += text.figureHeights[figure];
                } else {
                    blockedKinds |= kind;
                }
            }
        }

        /** Puts the next row onto the page; tells whether it could: no row comes behind a page break. */
        boolean addRow() {
            int next = row + count;
            if (next >= rows.count || count > 0 && rows.breakBehind[next - 1]) {
                return false;
            }
            count++;
            height += rows.heights[next];
            notes += rows.noteLines[next];
            lastNote = rows.lastNotes[next] > 0 ? rows.lastNotes[next] : lastNote;
            return true;
        }

        boolean isTooHigh() {
            return height > text.height;
        }

        /** Whether the page may have the rows that it has now. */
        boolean mayEnd() {
            int free = text.height - height;
            if (count == 1) {
                return true;
            }
            if (notes > 0) {
                return free >= left + notes - lastNote + 2;
            }
            return free >= (left > 0 ? 2 : 0);
        }

        /** Ends the page behind the rows that it has now. */
        void close() {
            int free = text.height - height;
            noteLines = free < 2 ? 0 : Math.min(left + notes, free - 1);
            leftNext = left + notes - noteLines;
            used = height + (noteLines > 0 ? noteLines + 1 : 0);
            standAtBottom();
        }

        private void standAtBottom() {
            int blockedKinds = 0;
            bottomSet = 0;
            waitNext = wait & ~topSet;
            for (int k = 0; k < rows.figureCount; k++) {
                int figure = rows.figuresInOrder[k];
                int kind = 1 << text.figureKinds[figure];
                int mention = rows.figureRows[figure];
                if ((waitNext >> k & 1) == 1) {
                    blockedKinds |= kind;
                } else if (mention >= row && mention < row + count) {
                    if ((blockedKinds & kind) == 0 && used + text.figureHeights[figure] <= text.height) {
                        bottomSet |= 1 << k;
                        used += text.figureHeights[figure];
                    } else {
                        waitNext |= 1 << k;
                        blockedKinds |= kind;
                    }
                }
            }
        }

        /** The costs of the page, once it is closed. */
        int costs() {
            int last = row + count - 1;
            int sum = leftNext > 0 ? 100 : 0;
            if (used > text.height) {
                sum += 100 * (used - text.height);
            }
            if (last < 0 || last + 1 >= rows.count || rows.breakBehind[last]) {
                return sum;
            }
            if (used < text.height) {
                sum += (text.height - used) * (text.height - used);
            }
            return sum + costsOfParting(last);
        }

        private int costsOfParting(int last) {
            int place = rows.blocks[last];
            Block block = text.blocks.get(place);
            boolean same = rows.blocks[last + 1] == place;
            boolean kept = block.kind == COLUMNS || block.styles[KEEP] == 1;
            if (block.kind == HEADING || same && kept) {
                return 10000;
            }
            if (!same) {
                return 0;
            }
            if (block.kind == PARAGRAPH) {
                return (rows.indexes[last] == 0 ? 150 : 0)
                        + (rows.indexes[last + 1] == rows.rowCounts[place] - 1 ? 150 : 0);
            }
            return block.kind == TABLE ? 100 : 0;
        }
    }

    /** The states in which pages can begin: a row, figures that wait, and lines of notes that are left. */
    private static final class States {
        /** The states of a row are a chain. */
        final int[] firsts = new int[MOST_ROWS];
        int[] nexts = new int[FIRST_STATES];
        int[] waits = new int[FIRST_STATES];
        int[] lefts = new int[FIRST_STATES];
        /** Of the best way from the state on: its costs, its pages, and the rows of its first page. */
        int[] costs = new int[FIRST_STATES];
        int[] pages = new int[FIRST_STATES];
        int[] rows = new int[FIRST_STATES];
        int count;

        void clear() {
            Arrays.fill(firsts, NONE);
            count = 0;
        }

        /** The state like this; if it was not kept, since there were too many, another one of the row. */
        int find(int row, int wait, int left) {
            int state = firsts[row];
            for (int k = 0; k < count && state != NONE; k++) {
                if (waits[state] == wait && lefts[state] == left) {
                    return state;
                }
                state = nexts[state];
            }
            return firsts[row];
        }

        /** Adds the state like this, if there is none yet. */
        void reach(int row, int wait, int left) {
            int found = find(row, wait, left);
            boolean isThere = found != NONE && waits[found] == wait && lefts[found] == left;
            if (isThere || found != NONE && count >= MOST_STATES) {
                return;
            }
            makeRoom();
            nexts[count] = firsts[row];
            firsts[row] = count;
            waits[count] = wait;
            lefts[count] = left;
            rows[count] = 0;
            count++;
        }

        private void makeRoom() {
            if (count < nexts.length) {
                return;
            }
            int room = 2 * nexts.length;
            nexts = Arrays.copyOf(nexts, room);
            waits = Arrays.copyOf(waits, room);
            lefts = Arrays.copyOf(lefts, room);
            costs = Arrays.copyOf(costs, room);
            pages = Arrays.copyOf(pages, room);
            rows = Arrays.copyOf(rows, room);
        }
    }

    /** The pages of a variant, made of its rows. */
    private static final class Pages {
        private final Text text;
        private final Rows rows;
        private final Page page;
        private final States states;
        int count;
        int costs;
        final int[] firstRows = new int[MOST_PAGES];
        final int[] rowCounts = new int[MOST_PAGES];
        final int[] noteLines = new int[MOST_PAGES];
        final int[] used = new int[MOST_PAGES];
        private final int[] pagesOfRows = new int[MOST_ROWS];
        final int[] figuresAt = new int[MOST_FIGURES];

        Pages(Text text, Rows rows, States states) {
            this.text = text;
            this.rows = rows;
            this.states = states;
            page = new Page(text, rows);
        }

        int pageOf(int row) {
            return pagesOfRows[row];
        }

        void make() {
            count = 0;
            costs = 0;
            Arrays.fill(figuresAt, NONE);
            if (rows.count == 0) {
                return;
            }
            states.clear();
            states.reach(0, 0, 0);
            for (int row = 0; row < rows.count; row++) {
                int state = states.firsts[row];
                for (int k = 0; k < states.count && state != NONE; k++) {
                    reachFrom(row, state);
                    state = states.nexts[state];
                }
            }
            for (int row = rows.count - 1; row >= 0; row--) {
                int state = states.firsts[row];
                for (int k = 0; k < states.count && state != NONE; k++) {
                    choose(row, state);
                    state = states.nexts[state];
                }
            }
            layOut();
        }

        /** Adds all states in which the page behind one that begins with this state can begin. */
        private void reachFrom(int row, int state) {
            page.open(row, states.waits[state], states.lefts[state]);
            for (int n = 1; n <= rows.count - row && page.addRow(); n++) {
                if (n > 1 && page.isTooHigh()) {
                    return;
                }
                if (page.mayEnd() && row + n < rows.count) {
                    page.close();
                    states.reach(row + n, withoutAlone(page.waitNext), page.leftNext);
                }
            }
        }

        /** Chooses the rows of the page that begins with this state; of equal ways the fewest rows. */
        private void choose(int row, int state) {
            page.open(row, states.waits[state], states.lefts[state]);
            for (int n = 1; n <= rows.count - row && page.addRow(); n++) {
                if (n > 1 && page.isTooHigh()) {
                    return;
                }
                if (page.mayEnd()) {
                    page.close();
                    weigh(row + n, state, n, page.costs());
                }
            }
        }

        /** Weighs a page with n rows and these costs, and the best way behind it, against the best way so far. */
        private void weigh(int nextRow, int state, int n, int costsOfPage) {
            int sum = costsOfPage;
            int pages = 1;
            if (nextRow < rows.count) {
                int wait = withoutAlone(page.waitNext);
                int next = states.find(nextRow, wait, page.leftNext);
                if (next == NONE) {
                    return;
                }
                sum += states.costs[next];
                pages += Integer.bitCount(page.waitNext ^ wait) + states.pages[next];
            } else {
                pages += pagesBehind(page.waitNext, page.leftNext);
            }
            if (states.rows[state] == 0 || sum < states.costs[state]
                    || sum == states.costs[state] && pages < states.pages[state]) {
                states.costs[state] = sum;
                states.pages[state] = pages;
                states.rows[state] = n;
            }
        }

        /** The first figures that wait get pages of their own, as long as they are too high for the top of one. */
        private int withoutAlone(int waiting) {
            int wait = waiting;
            for (int k = 0; k < rows.figureCount; k++) {
                if ((wait >> k & 1) == 1) {
                    if (text.figureHeights[rows.figuresInOrder[k]] <= text.height / 2) {
                        return wait;
                    }
                    wait &= ~(1 << k);
                }
            }
            return wait;
        }

        /** How many pages come behind all rows. */
        private int pagesBehind(int waiting, int left) {
            int wait = waiting;
            int pages = 0;
            for (int k = 0; k < MOST_FIGURES && wait != 0; k++) {
                wait &= ~figuresBehind(wait);
                pages++;
            }
            return pages + (left + text.height - 2) / Math.max(1, text.height - 1);
        }

        /** The figures of the next page behind all rows, of those that wait. */
        private int figuresBehind(int wait) {
            int set = 0;
            int height = 0;
            for (int k = 0; k < rows.figureCount; k++) {
                if ((wait >> k & 1) == 0) {
                    continue;
                }
                height += text.figureHeights[rows.figuresInOrder[k]];
                if (set != 0 && height > text.height) {
                    return set;
                }
                set |= 1 << k;
            }
            return set;
        }

        /** Makes the pages that were chosen, from the first one on. */
        private void layOut() {
            int row = 0;
            int wait = 0;
            int left = 0;
            for (int k = 0; k < MOST_ROWS && row < rows.count; k++) {
                int state = states.find(row, wait, left);
                int n = state == NONE ? 1 : Math.max(1, states.rows[state]);
                page.open(row, wait, left);
                for (int added = 0; added < n; added++) {
                    page.addRow();
                }
                page.close();
                costs += page.costs();
                putPage(row, n);
                row += n;
                wait = page.waitNext;
                left = page.leftNext;
                if (row < rows.count) {
                    wait = withoutAlone(page.waitNext);
                    putAlone(page.waitNext ^ wait);
                }
            }
            putFiguresBehind(wait);
            putNotesBehind(left);
        }

        private void putPage(int row, int n) {
            put(row, n, page.noteLines, page.used);
            for (int k = row; k < row + n && k < rows.count; k++) {
                pagesOfRows[k] = count;
            }
            placeFigures(page.topSet, AT_TOP);
            placeFigures(page.bottomSet, AT_BOTTOM);
        }

        private void put(int firstRow, int n, int notes, int usedOfPage) {
            if (count < MOST_PAGES) {
                firstRows[count] = firstRow;
                rowCounts[count] = n;
                noteLines[count] = notes;
                used[count] = usedOfPage;
                count++;
            }
        }

        /** Notes where figures of the last page stand; answers their heights, together. */
        private int placeFigures(int set, int where) {
            int height = 0;
            for (int k = 0; k < rows.figureCount; k++) {
                if ((set >> k & 1) == 1) {
                    int figure = rows.figuresInOrder[k];
                    figuresAt[figure] = 10 * count + where;
                    height += text.figureHeights[figure];
                }
            }
            return height;
        }

        private void putAlone(int set) {
            for (int k = 0; k < rows.figureCount; k++) {
                if ((set >> k & 1) == 1) {
                    putFigures(1 << k);
                }
            }
        }

        private void putFiguresBehind(int waiting) {
            int wait = waiting;
            for (int k = 0; k < MOST_FIGURES && wait != 0; k++) {
                int set = figuresBehind(wait);
                putFigures(set);
                wait &= ~set;
            }
        }

        private void putFigures(int set) {
            if (count < MOST_PAGES) {
                put(rows.count, 0, 0, 0);
                used[count - 1] = placeFigures(set, WITHOUT_ROWS);
            }
        }

        private void putNotesBehind(int leftLines) {
            int left = leftLines;
            for (int k = 0; k < MOST_PAGES && left > 0; k++) {
                int lines = Math.min(left, text.height - 1);
                put(rows.count, 0, lines, lines + 1);
                left -= lines;
            }
        }
    }

    /** Lines, rows and pages of one variant, made in rounds. */
    private static final class Layout {
        private final Text text;
        private final int variant;
        private final Lines lines;
        final Rows rows;
        final Pages pages;
        /** Whether another round comes. */
        boolean goesOn = true;
        private boolean isLastRound;
        final int[] lineCounts = new int[MOST_BLOCKS];
        final int[] lineEnds = new int[MOST_BLOCKS * MOST_PLACES];
        final int[] lineClasses = new int[MOST_BLOCKS * MOST_PLACES];
        final long[] lineDemerits = new long[MOST_BLOCKS];
        private final int[] wordLines = new int[MOST_BLOCKS * MOST_WORDS];
        /** Of the term that was asked last; with a page ahead of the first one and one behind the last one. */
        private final boolean[] onPages = new boolean[MOST_PAGES + 2];
        int rounds;
        boolean settled;
        /** The digits of all labels with which the last round was made or the next one is, and those of all rounds. */
        private int digits = ONE_DIGIT_EACH;
        private final int[] digitsOfRounds = new int[MOST_ROUNDS];

        Layout(Text text, int variant, Lines lines, States states) {
            this.text = text;
            this.variant = variant;
            this.lines = lines;
            rows = new Rows();
            pages = new Pages(text, rows, states);
        }

        /** Lets the rounds begin anew. */
        void forget() {
            goesOn = true;
            isLastRound = false;
            settled = false;
            rounds = 0;
            digits = ONE_DIGIT_EACH;
        }

        /** Makes the next round, and finds whether another one comes behind it. */
        void makeRound() {
            for (int place = 0; place < text.blocks.size(); place++) {
                breakBlock(place);
            }
            rows.make(text, variant, lineCounts, wordLines);
            pages.make();
            if (rounds < MOST_ROUNDS) {
                digitsOfRounds[rounds] = digits;
            }
            rounds++;
            goesOn = !isLastRound;
            if (goesOn) {
                compareDigits(digitsOfPages());
            }
        }

        private void compareDigits(int given) {
            settled = given == digits;
            goesOn = !settled;
            if (goesOn) {
                int again = roundWith(given);
                isLastRound = again != NONE;
                digits = isLastRound ? mostDigitsFrom(again) : given;
            }
        }

        private void breakBlock(int place) {
            lines.takeUp(text.blocks.get(place), variant, text.width, digits);
            lineCounts[place] = 0;
            lineDemerits[place] = 0;
            if (lines.places == 0) {
                return;
            }
            lines.findBestWays();
            lineDemerits[place] = lines.leastDemerits();
            int from = 0;
            int ahead = NONE;
            for (int line = 0; line < MOST_PLACES && from < lines.places; line++) {
                int to = lines.bestEnd(from, line, ahead);
                if (to <= from) {
                    return;
                }
                lineEnds[place * MOST_PLACES + line] = 10 * lines.wordAt[to] + lines.gapAt[to];
                lineClasses[place * MOST_PLACES + line] = lines.lineClass;
                placeWords(place, line, from, to);
                ahead = lines.lineClass;
                from = to;
                lineCounts[place]++;
            }
        }

        /** A word begins at the place at which the one ahead of it ends. */
        private void placeWords(int place, int line, int from, int to) {
            for (int k = from; k < to; k++) {
                if (lines.gapAt[k] == 0) {
                    wordLines[place * MOST_WORDS + lines.wordAt[k + 1]] = line;
                }
            }
        }

        private int digitsOfPages() {
            int given = 0;
            for (int label = 0; label < LABELS; label++) {
                int page = pageOfLabel(label);
                int digitsOfLabel = page < 10 ? 1 : page < 100 ? 2 : 3;
                given |= digitsOfLabel << DIGITS_BITS * label;
            }
            return given;
        }

        /** The round that was made with these digits. */
        private int roundWith(int given) {
            for (int k = 0; k < rounds && k < MOST_ROUNDS; k++) {
                if (digitsOfRounds[k] == given) {
                    return k;
                }
            }
            return NONE;
        }

        /** The most digits for each label, of those of the rounds from this one on. */
        private int mostDigitsFrom(int round) {
            int most = ONE_DIGIT_EACH;
            for (int k = round; k < rounds && k < MOST_ROUNDS; k++) {
                for (int label = 0; label < LABELS; label++) {
                    int mask = DIGITS_MASK << DIGITS_BITS * label;
                    if ((digitsOfRounds[k] & mask) > (most & mask)) {
                        most = most & ~mask | digitsOfRounds[k] & mask;
                    }
                }
            }
            return most;
        }

        long demeritsByAllWays(int place) {
            lines.takeUp(text.blocks.get(place), variant, text.width, digits);
            return lines.leastByAllWays();
        }

        int headOf(int page) {
            int head = NONE;
            for (int place = 0; place < text.blocks.size(); place++) {
                if (!isHeading(place) || text.blocks.get(place).styles[LEVEL] != 1) {
                    continue;
                }
                int its = pages.pageOf(rows.firstRows[place]);
                if (its > page) {
                    return head;
                }
                head = place;
                if (its == page) {
                    return head;
                }
            }
            return head;
        }

        private boolean isHeading(int place) {
            Block block = text.blocks.get(place);
            return block.kind == HEADING && block.isThere(variant);
        }

        int pageOfLabel(int label) {
            return rows.labelRows[label] == NONE ? NONE : pages.pageOf(rows.labelRows[label]);
        }

        /** The place of a heading, of all headings of the text. */
        int headingAt(int index) {
            int ahead = 0;
            for (int place = 0; place < text.blocks.size(); place++) {
                if (isHeading(place)) {
                    if (ahead == index) {
                        return place;
                    }
                    ahead++;
                }
            }
            return NONE;
        }

        /** The term that has as many terms ahead of it in the index. */
        int termAt(int index) {
            for (int term = 0; term < TERMS; term++) {
                if (rows.termThere[term] && termsAhead(term) == index) {
                    return term;
                }
            }
            return NONE;
        }

        private int termsAhead(int term) {
            int ahead = 0;
            for (int other = 0; other < TERMS; other++) {
                boolean earlier = text.keys[other] < text.keys[term]
                        || text.keys[other] == text.keys[term] && other < term;
                if (rows.termThere[other] && earlier) {
                    ahead++;
                }
            }
            return ahead;
        }

        /** A range of pages of a term. */
        int rangeOf(int term, int index) {
            findPagesOf(term);
            int ahead = 0;
            int first = 0;
            for (int page = 1; page <= pages.count; page++) {
                if (!onPages[page]) {
                    continue;
                }
                if (!onPages[page - 1]) {
                    first = page;
                }
                if (!onPages[page + 1]) {
                    if (ahead == index) {
                        return 1000 * first + page;
                    }
                    ahead++;
                }
            }
            return NONE;
        }

        private void findPagesOf(int term) {
            for (int page = 0; page <= pages.count + 1; page++) {
                onPages[page] = false;
            }
            for (int place = 0; place < text.blocks.size(); place++) {
                ArrayList<Word> words = text.blocks.get(place).words;
                for (int at = 0; at < words.size(); at++) {
                    int row = rows.wordRows[place * MOST_WORDS + at];
                    if (row != NONE && words.get(at).marks[TERM] == term) {
                        onPages[pages.pageOf(row)] = true;
                    }
                }
            }
        }
    }
}
