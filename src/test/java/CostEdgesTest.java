/** The boundary cases of the section 'Pages' on rows, notes, costs, the pages behind all rows, and of several ways. */
public final class CostEdgesTest {
    private static final int NOTE = Galleyforge.NOTE;
    private static final int MENTION = Galleyforge.MENTION;

    public static void main(String[] args) {
        rowsWithoutNotes();
        rowsBelowFigures();
        rowsWithANote();
        rowsWithNotes();
        rowsWithLinesLeft();
        rowsWithLinesLeftAndNotes();
        justOneRow();
        theOrderOfNotes();
        linesThatCome();
        linesBelowFigures();
        theRule();
        notesThatAreGone();
        theSquare();
        moreThanThePaper();
        linesAreLeft();
        partedHeadings();
        partedColumns();
        keptTogether();
        firstAndLastRows();
        partedTables();
        freeToPart();
        figuresBehind();
        notesBehind();
        theFewestPages();
        theFewestRows();
        manyWays();
        Check.end("CostEdgesTest");
    }

    private static Galleyforge paper(int height, int... figures) {
        return PageEdgesTest.paper(height, figures);
    }

    private static void rows(Galleyforge g, int... heights) {
        for (int height : heights) {
            Check.addRow(g, height);
        }
    }

    private static int heading(Galleyforge g, int... notes) {
        int place = Check.add(g, Galleyforge.HEADING);
        for (int note : notes) {
            Check.marked(g, place, NOTE, note, "0");
        }
        return place;
    }

    private static void pageBreak(Galleyforge g) {
        PageEdgesTest.pageBreak(g);
    }

    /** "The page may have rows from i on ... if f is 0 or more". */
    private static void rowsWithoutNotes() {
        Galleyforge g = paper(6);
        rows(g, 3, 3);
        Check.pages("f is 0", g, 0, 2, 0, 6);
        g = paper(6);
        rows(g, 3, 4);
        Check.pages("f is below 0", g, 9, 1, 0, 3, 1, 0, 4);
        g = paper(6);
        rows(g, 1, 1, 1, 1, 1, 1, 1);
        Check.pages("seven rows", g, 0, 6, 0, 6, 1, 0, 1);
    }

    /** "what the paper's height is above the heights of the figures at the top and of the rows, together". */
    private static void rowsBelowFigures() {
        Galleyforge g = paper(6, 0, 3);
        rows(g, 5);
        Check.addKept(g, MENTION, 0);
        pageBreak(g);
        rows(g, 2, 1);
        Check.pages("f is 0", g, 0, 2, 0, 6, 2, 0, 6);
        rows(g, 1);
        Check.pages("f is below 0 for three rows", g, 0, 2, 0, 6, 2, 0, 6, 1, 0, 1);
        g.remove(4);
        Check.pages("f is 0 again", g, 0, 2, 0, 6, 2, 0, 6);
        g.paper(30, 7);
        Check.due("on 7 they have more room", g.pages(0), 2);
    }

    /** "if words in them have notes, f is at least the lines that are left, and those of all these notes but the last". */
    private static void rowsWithANote() {
        Galleyforge g = paper(6);
        Check.addKept(g, NOTE, 5, -1, -1, -1);
        // of one note one line, and the rule
        Check.pages("f is 2", g, 100, 4, 1, 6, 0, 4, 5);
        g = paper(6);
        Check.addKept(g, NOTE, 5, -1, -1, -1, -1);
        Check.pages("f would be 1", g, 10100, 1, 4, 6, 4, 1, 6);
        g = paper(6);
        Check.addKept(g, NOTE, -1, -1, -1, -1, 4);
        Check.pages("a note in the fifth row", g, 10004, 4, 0, 4, 1, 4, 6);
        g = paper(6);
        Check.addKept(g, NOTE, -1, -1, -1, 5);
        Check.pages("a note in the fourth row", g, 100, 4, 1, 6, 0, 4, 5);
    }

    private static void rowsWithNotes() {
        Galleyforge g = paper(7);
        Check.addKept(g, NOTE, 3, 5);
        Check.pages("f is 3 and 2", g, 100, 2, 4, 7, 0, 4, 5);
        g = paper(7);
        Check.addKept(g, NOTE, 4, 5);
        Check.pages("f is less than 4 and 2", g, 10001, 1, 4, 6, 1, 5, 7);
        g = paper(7);
        Check.addKept(g, NOTE, 3, 1);
        Check.pages("both have room", g, 0, 2, 4, 7);
        g = paper(9);
        Check.addKept(g, NOTE, 2, 2, 5);
        Check.pages("f is 2, 2 and 2", g, 100, 3, 5, 9, 0, 4, 5);
        g = paper(9);
        Check.addKept(g, NOTE, 2, 3, 5);
        Check.due("f is less than 2, 3 and 2", g.cost(0) >= 10000 ? 1 : 0, 1);
    }

    /** "or, if they have none and lines are left, at least 2". */
    private static void rowsWithLinesLeft() {
        Galleyforge g = lineLeft();
        Check.addKept(g, NOTE, -1, -1, -1, -1);
        Check.pages("f is 2", g, 100, 1, 4, 6, 4, 1, 6);
        g = lineLeft();
        Check.addKept(g, NOTE, -1, -1, -1, -1, -1);
        Check.pages("f would be 1", g, 10100, 1, 4, 6, 4, 1, 6, 1, 0, 1);
        g = lineLeft();
        rows(g, 4, 2);
        Check.pages("f would be 0", g, 100, 1, 4, 6, 1, 1, 6, 1, 0, 2);
    }

    /** A page from which one line of a note is left. */
    private static Galleyforge lineLeft() {
        Galleyforge g = paper(6);
        Check.addKept(g, NOTE, 5);
        pageBreak(g);
        return g;
    }

    /** "f is at least the lines that are left, and those of all these notes but the last one, and 2, together". */
    private static void rowsWithLinesLeftAndNotes() {
        Galleyforge g = paper(6);
        heading(g, 5);
        pageBreak(g);
        Check.addKept(g, NOTE, 1, -1);
        // 2 lines are left: f is 4
        Check.pages("f is 2 and 2", g, 100, 1, 3, 6, 2, 3, 6);
        g = paper(6);
        heading(g, 5);
        pageBreak(g);
        Check.addKept(g, NOTE, 1, -1, -1);
        Check.pages("f would be 3", g, 10100, 1, 3, 6, 2, 3, 6, 1, 0, 1);
        g = paper(6);
        heading(g, 5);
        pageBreak(g);
        Check.addKept(g, NOTE, 5, -1);
        Check.pages("the last note goes on", g, 200, 1, 3, 6, 2, 3, 6, 0, 4, 5);
    }

    /** "if that is just one": whatever f is. */
    private static void justOneRow() {
        Galleyforge g = lineLeft();
        rows(g, 4);
        Check.pages("f is 2", g, 100, 1, 4, 6, 1, 1, 6);
        g = lineLeft();
        rows(g, 5);
        Check.pages("f is 1", g, 200, 1, 4, 6, 1, 0, 5, 0, 1, 2);
        g = lineLeft();
        rows(g, 6);
        Check.pages("f is 0", g, 200, 1, 4, 6, 1, 0, 6, 0, 1, 2);
        g = lineLeft();
        rows(g, 7);
        Check.pages("f is below 0", g, 300, 1, 4, 6, 1, 0, 7, 0, 1, 2);
        g = paper(6);
        Check.addKept(g, NOTE, 5);
        rows(g, 3, 7);
        // both rows on the first page would leave 4 lines, which would have no room beside 7: 300
        Check.pages("no lines are left then", g, 100 + 1 + 100, 1, 4, 6, 1, 1, 5, 1, 0, 7);
        g = paper(7);
        heading(g, 5, 5, 5);
        Check.pages("notes of one row", g, 100, 1, 4, 7, 0, 6, 7, 0, 5, 6);
    }

    /** "the order of notes is that of rows, in a row that of words". */
    private static void theOrderOfNotes() {
        Galleyforge g = columnsWithNotes(-1, 5, 1, -1);
        // the words 0 and 2 are in the first row: the note of 5 is the last one
        Check.pages("by rows", g, 100, 2, 3, 6, 0, 3, 4);
        g = columnsWithNotes(-1, 1, 5, -1);
        Check.pages("by rows, the other way round", g, 10100, 1, 4, 6, 1, 2, 4);
        g = secondLineWithNotes(1, 5);
        Check.pages("by words", g, 100, 2, 3, 6, 0, 3, 4);
        g = secondLineWithNotes(5, 1);
        Check.pages("by words, the other way round", g, 10125, 1, 0, 1, 1, 4, 6, 0, 2, 3);
    }

    private static Galleyforge columnsWithNotes(int... notes) {
        Galleyforge g = paper(6);
        int place = Check.add(g, Galleyforge.COLUMNS);
        for (int note : notes) {
            Check.marked(g, place, NOTE, note, "321");
        }
        return g;
    }

    private static Galleyforge secondLineWithNotes(int one, int other) {
        Galleyforge g = paper(6);
        int place = Check.addKept(g, NOTE);
        Check.words(g, place, "33333");
        Check.marked(g, place, NOTE, one, "33");
        Check.marked(g, place, NOTE, other, "331");
        Check.due("two lines", g.lines(0, place), 2);
        return g;
    }

    /** "come onto the page, but at most f less 1"; "others are left for the next page". */
    private static void linesThatCome() {
        int[] used = {0, 4, 5, 6};
        for (int note = 1; note <= 3; note++) {
            Galleyforge g = paper(6);
            heading(g, note);
            Check.pages(note + " of 3", g, 0, 1, note, used[note]);
        }
        Galleyforge g = paper(6);
        heading(g, 4);
        Check.pages("4 of 3", g, 100, 1, 3, 6, 0, 1, 2);
        g = paper(6);
        heading(g, 1, 2);
        Check.pages("1 and 2 of 3", g, 0, 1, 3, 6);
        g = paper(6);
        heading(g, 2, 2);
        Check.pages("2 and 2 of 3", g, 100, 1, 3, 6, 0, 1, 2);
    }

    /** "and none for f below 2". */
    private static void linesBelowFigures() {
        Galleyforge g = figureOnTop();
        heading(g, 1);
        Check.pages("f is 1", g, 100, 6, 0, 6, 1, 0, 5, 0, 1, 2);
        g = figureOnTop();
        Check.addKept(g, NOTE, 1);
        Check.pages("f is 2", g, 0, 6, 0, 6, 1, 1, 6);
        g = figureOnTop();
        Check.addKept(g, NOTE, 2);
        Check.pages("f is 2, and 1 is left", g, 100, 6, 0, 6, 1, 1, 6, 0, 1, 2);
    }

    /** On paper of the height 6 a full page, and behind it one on which a figure of 3 comes to the top. */
    private static Galleyforge figureOnTop() {
        Galleyforge g = paper(6, 0, 3);
        Check.addKept(g, MENTION, -1, -1, -1, -1, -1, 0);
        pageBreak(g);
        return g;
    }

    /** "If some come, they use 1 besides for a rule." */
    private static void theRule() {
        Galleyforge g = paper(6);
        heading(g);
        Check.pages("none", g, 0, 1, 0, 2);
        g = paper(6);
        heading(g, 1);
        Check.pages("one", g, 0, 1, 1, 4);
        g = lineLeft();
        rows(g, 5);
        Check.due("none come", g.on(0, 2, 2), 5);
        Check.due("one behind all rows", g.on(0, 3, 2), 2);
    }

    /** Rows that had notes, and have none any more. */
    private static void notesThatAreGone() {
        Galleyforge g = paper(6);
        int place = Check.addKept(g, NOTE, 3, 5, -1, -1, -1);
        // 1 and 10000 for the first page, 100 for the second one
        Check.pages("with notes", g, 10101, 1, 3, 5, 4, 1, 6, 0, 4, 5);
        g.take(place, 1);
        Check.words(g, place, "333333");
        Check.pages("with the first one alone", g, 10000, 2, 3, 6, 3, 0, 3);
        g.take(place, 0);
        Check.words(g, place, "333333");
        Check.pages("without notes", g, 0, 5, 0, 5);
    }

    /** "the square of what the paper's height is above what is used, if that is less". */
    private static void theSquare() {
        for (int less = 0; less <= 5; less++) {
            Galleyforge g = paper(6);
            rows(g, 6 - less, 6);
            Check.pages("less by " + less, g, less * less, 1, 0, 6 - less, 1, 0, 6);
            g.block(1, Galleyforge.BREAK);
            Check.pages("a page break behind it", g, 0, 1, 0, 6 - less, 1, 0, 6);
            g.remove(2);
            Check.pages("the last row", g, 0, 1, 0, 6 - less);
        }
        Galleyforge g = paper(40);
        rows(g, 1, 40);
        Check.pages("less by 39", g, 39 * 39, 1, 0, 1, 1, 0, 40);
    }

    /** "100 times what is used above the paper's height": ahead of a page break, too, and on the last page. */
    private static void moreThanThePaper() {
        Galleyforge g = paper(6);
        rows(g, 7, 1);
        Check.pages("more by 1", g, 100, 1, 0, 7, 1, 0, 1);
        g.block(1, Galleyforge.BREAK);
        Check.pages("a page break behind it", g, 100, 1, 0, 7, 1, 0, 1);
        g = paper(6);
        rows(g, 6, 8);
        Check.pages("more by 2 on the last page", g, 200, 1, 0, 6, 1, 0, 8);
        g = figureOnTop();
        rows(g, 4);
        Check.pages("more by 1 with a figure", g, 100, 6, 0, 6, 1, 0, 7);
        Check.figures("more by 1 with a figure", g, 20);
    }

    /** "100, if lines of notes are left": beside the other costs. */
    private static void linesAreLeft() {
        Galleyforge g = paper(6);
        heading(g, 4);
        Check.pages("on the last page", g, 100, 1, 3, 6, 0, 1, 2);
        g = lineLeft();
        Check.pages("ahead of a page break", g, 100, 1, 4, 6, 0, 1, 2);
        g = paper(6);
        Check.addKept(g, NOTE, 5);
        rows(g, 5, 6);
        // 100; 100 and 1; 100
        Check.pages("on three pages", g, 301, 1, 4, 6, 1, 0, 5, 1, 0, 6, 0, 1, 2);
        g = paper(6);
        Check.addKept(g, NOTE, 5);
        rows(g, 7, 6);
        Check.pages("with more than the paper", g, 100 + 200 + 100, 1, 4, 6, 1, 0, 7, 1, 0, 6, 0, 1, 2);
        g = paper(6);
        heading(g, 5);
        rows(g, 4);
        Check.pages("with a heading", g, 10100 + 100, 1, 3, 6, 1, 1, 6, 0, 1, 2);
    }

    /** "if rows follow and no page break comes between: 10000, if its last row is of a heading". */
    private static void partedHeadings() {
        for (int level = 1; level <= 2; level++) {
            Galleyforge g = paper(6);
            g.style(heading(g), Galleyforge.LEVEL, level);
            Check.pages("no rows follow", g, 0, 1, 0, 2);
            rows(g, 4);
            Check.pages("on one page", g, 0, 2, 0, 6);
            g.cell(1, 0, 0, 1, 5, 25);
            Check.pages("parted", g, 10016, 1, 0, 2, 1, 0, 5);
            g.block(1, Galleyforge.BREAK);
            Check.pages("a page break between", g, 0, 1, 0, 2, 1, 0, 5);
            g.style(1, Galleyforge.VARIANT, 1);
            g.block(1, Galleyforge.PARAGRAPH);
            Check.pages("a block without rows between", g, 10016, 1, 0, 2, 1, 0, 5);
        }
    }

    /** "or if it and the next one are of one block which is columns". */
    private static void partedColumns() {
        Galleyforge g = paper(6);
        int place = Check.add(g, Galleyforge.COLUMNS);
        for (int k = 0; k < 12; k++) {
            Check.words(g, place, "321");
        }
        Check.pages("six rows", g, 0, 6, 0, 6);
        rows(g, 1);
        Check.pages("behind their last row", g, 0, 6, 0, 6, 1, 0, 1);
        g.block(0, Galleyforge.HEADING);
        Check.pages("parted", g, 10000, 5, 0, 6, 3, 0, 3);
        g = paper(6);
        for (int k = 0; k < 2; k++) {
            Check.add(g, Galleyforge.COLUMNS, "321", "321", "321", "321", "321", "321", "321");
        }
        Check.pages("two blocks of four rows", g, 4, 4, 0, 4, 4, 0, 4);
    }

    /** "or is kept": rows of one block of any kind, instead of what they cost otherwise. */
    private static void keptTogether() {
        for (int keep = 0; keep <= 1; keep++) {
            Galleyforge g = paper(40);
            rows(g, 39);
            int place = Check.addKept(g, NOTE, -1, -1, -1);
            g.style(place, Galleyforge.KEEP, keep);
            rows(g, 38);
            if (keep == 0) {
                Check.pages("a paragraph of three rows", g, 150, 2, 0, 40, 3, 0, 40);
            } else {
                Check.pages("one that is kept", g, 1 + 37 * 37, 1, 0, 39, 3, 0, 3, 1, 0, 38);
            }
        }
        int[] kinds = {Galleyforge.CONTENTS, Galleyforge.INDEX, Galleyforge.TABLE};
        for (int kind : kinds) {
            Galleyforge g = paper(40);
            rows(g, 39);
            Check.add(g, kind);
            g.style(1, Galleyforge.KEEP, 1);
            if (kind == Galleyforge.TABLE) {
                g.cell(1, 1, 0, 1, 0, 30);
            }
            rows(g, 35);
            Check.marked(g, heading(g), Galleyforge.TERM, 1, "0");
            Check.marked(g, heading(g), Galleyforge.TERM, 2, "0");
            // the square of 1, and of 3, as headings are not parted
            Check.pages("two rows of kind " + kind, g, 1 + 9, 1, 0, 39, 3, 0, 37, 2, 0, 4);
        }
    }

    /** "150, if the one is its first row, and 150, if the other one is its last row". */
    private static void firstAndLastRows() {
        int[][] cases = {{39, 2, 39, 300}, {39, 3, 38, 150}, {38, 3, 39, 150}, {38, 4, 38, 0}, {37, 5, 38, 0},
            {39, 4, 37, 150}, {37, 4, 39, 150}};
        for (int[] c : cases) {
            Galleyforge g = paper(40);
            rows(g, c[0]);
            Check.addMarked(g, NOTE, none(c[1]));
            rows(g, c[2]);
            int first = 40 - c[0];
            Check.pages(first + " of " + c[1] + " rows ahead", g, c[3], 1 + first, 0, 40, 1 + c[1] - first, 0, 40);
        }
        Galleyforge g = paper(40);
        rows(g, 40);
        Check.addMarked(g, NOTE, -1);
        rows(g, 39);
        Check.pages("one row", g, 0, 1, 0, 40, 2, 0, 40);
    }

    private static int[] none(int count) {
        int[] values = new int[count];
        java.util.Arrays.fill(values, -1);
        return values;
    }

    /** "otherwise, if both are of one table, 100". */
    private static void partedTables() {
        for (int rows = 2; rows <= 4; rows++) {
            Galleyforge g = paper(40);
            rows(g, 39);
            Check.add(g, Galleyforge.TABLE);
            g.cell(1, rows - 1, 0, 1, 0, 0);
            rows(g, 41 - rows);
            Check.pages("the first of " + rows + " rows ahead", g, 100, 2, 0, 40, rows, 0, 40);
        }
        Galleyforge g = paper(6);
        rows(g, 6, 6);
        Check.pages("two tables", g, 0, 1, 0, 6, 1, 0, 6);
    }

    /** Contents, indexes and different blocks cost nothing where they are parted. */
    private static void freeToPart() {
        for (int kind : new int[] {Galleyforge.CONTENTS, Galleyforge.INDEX}) {
            Galleyforge g = paper(40);
            rows(g, 39);
            Check.add(g, kind);
            Check.marked(g, heading(g), Galleyforge.TERM, 1, "0");
            Check.marked(g, heading(g), Galleyforge.TERM, 2, "0");
            Check.pages("two rows of kind " + kind, g, 0, 2, 0, 40, 3, 0, 5);
        }
        Galleyforge g = paper(40);
        rows(g, 39);
        Check.addKept(g, NOTE, -1);
        Check.addKept(g, NOTE, -1);
        Check.pages("two blocks that are kept", g, 0, 2, 0, 40, 1, 0, 1);
        Galleyforge h = paper(40);
        Check.add(h, Galleyforge.CONTENTS);
        Check.marked(h, heading(h), Galleyforge.TERM, 1, "0");
        Check.marked(h, heading(h), Galleyforge.TERM, 1, "0");
        Check.pages("contents have rows for headings alone", h, 0, 4, 0, 6);
    }

    /** "up to the first one with which they would be higher than the paper, together, but at least with one". */
    private static void figuresBehind() {
        behind("3 and 3 of 6", new int[] {0, 3, 1, 3}, 0, 0, 6);
        behind("3 and 4 of 6", new int[] {0, 3, 1, 4}, 0, 0, 3, 0, 0, 4);
        behind("2, 2 and 2 of 6", new int[] {0, 2, 1, 2, 0, 2}, 0, 0, 6);
        behind("2, 2 and 3 of 6", new int[] {0, 2, 1, 2, 0, 3}, 0, 0, 4, 0, 0, 3);
        behind("5, 2 and 1 of 6", new int[] {0, 5, 1, 2, 1, 1}, 0, 0, 5, 0, 0, 3);
        behind("one of 6", new int[] {0, 6}, 0, 0, 6);
        behind("one of 7", new int[] {0, 7}, 0, 0, 7);
        behind("7 and 1", new int[] {0, 7, 1, 1}, 0, 0, 7, 0, 0, 1);
        behind("1 and 40", new int[] {0, 1, 1, 40}, 0, 0, 1, 0, 0, 40);
        behind("five of one kind", new int[] {1, 1, 1, 1, 1, 1, 1, 1, 1, 1}, 0, 0, 5);
    }

    /** A full page that mentions all figures, and nothing behind it. */
    private static void behind(String what, int[] figures, int... pages) {
        Galleyforge g = paper(6, figures);
        int count = figures.length / 2;
        rows(g, 6 - count);
        int[] all = new int[count];
        for (int k = 0; k < count; k++) {
            all[k] = k;
        }
        Check.addKept(g, MENTION, all);
        int[] due = new int[pages.length + 3];
        due[0] = 1 + count;
        due[2] = 6;
        System.arraycopy(pages, 0, due, 3, pages.length);
        Check.pages(what, g, 0, due);
        Check.due(what + ": the first one", g.figureAt(0, 0), 22);
    }

    /** "one with lines of notes, at most as many as the paper's height less 1, and 1 for the rule". */
    private static void notesBehind() {
        Galleyforge g = paper(6);
        heading(g, 5, 3);
        Check.pages("5 are left", g, 100, 1, 3, 6, 0, 5, 6);
        g = paper(6);
        heading(g, 5, 4);
        Check.pages("6 are left", g, 100, 1, 3, 6, 0, 5, 6, 0, 1, 2);
        g = paper(6);
        heading(g, 5, 5, 3);
        Check.pages("10 are left", g, 100, 1, 3, 6, 0, 5, 6, 0, 5, 6);
        g = paper(6, 0, 6, 1, 1);
        g.mark(MENTION, 0);
        int place = heading(g, 5);
        Check.marked(g, place, MENTION, 1, "0");
        Check.pages("figures come first", g, 100, 1, 3, 6, 0, 0, 6, 0, 0, 1, 0, 2, 3);
        Check.figures("figures come first", g, 22, 32);
        g.take(place, 0);
        g.take(place, 0);
        Check.pages("none is left", g, 0, 1, 0, 2);
    }

    /** "of several ways by the fewest pages". */
    private static void theFewestPages() {
        Galleyforge g = paper(28, 0, 26, 1, 18);
        Check.addMarked(g, MENTION, 0, 1);
        heading(g);
        // two pages with rows would be 28 high and without costs, too
        Check.pages("one page with rows, one with a figure", g, 0, 3, 0, 22, 0, 0, 26);
        g = paper(6);
        Check.addKept(g, NOTE, 5);
        heading(g);
        pageBreak(g);
        heading(g);
        // a page with one row is full, too, and 100 is to be paid for it, too
        Check.pages("two rows on the first page", g, 100, 2, 2, 6, 1, 3, 6);
        Check.marked(g, 3, NOTE, 4, "0");
        // 4 lines behind all rows are one page, as 1 line would be
        Check.pages("more lines behind", g, 200, 2, 2, 6, 1, 3, 6, 0, 4, 5);
        g = paper(6, 0, 5);
        Check.addKept(g, MENTION, 0);
        heading(g);
        pageBreak(g);
        heading(g);
        // a page for the figure alone counts
        Check.pages("a figure that is not alone", g, 0, 1, 0, 6, 1, 0, 2, 1, 0, 2);
        g = paper(7, 0, 6);
        Check.addKept(g, MENTION, 0);
        heading(g);
        // a page for the figure behind all rows counts
        Check.pages("a figure that is not behind", g, 0, 1, 0, 7, 1, 0, 2);
        g = paper(7, 1, 5, 1, 5);
        Check.addMarked(g, MENTION, 0, 1);
        heading(g);
        Check.pages("one figure behind", g, 0, 2, 0, 7, 0, 0, 5, 1, 0, 2);
        Check.figures("one figure behind", g, 11, 22);
    }

    /**
     * 300 lines of notes, of which each of the first five pages has 3, and then 55 rows: with 4 of them a page has 1
     * line and is full; with fewer it is full, too. So fourteen pages are the least, and only the first one has 3 rows.
     */
    private static void manyWays() {
        Galleyforge g = paper(6);
        for (int k = 0; k < 5; k++) {
            heading(g, 5, 5, 5, 5, 5, 5, 5, 5, 5, 5, 5, 5);
        }
        for (int k = 0; k < 11; k++) {
            Check.add(g, Galleyforge.CONTENTS);
        }
        int[] due = new int[3 * (5 + 14 + 54)];
        for (int page = 0; page < due.length / 3; page++) {
            int rows = page < 5 ? 1 : page == 5 ? 3 : page < 19 ? 4 : 0;
            due[3 * page] = rows;
            due[3 * page + 1] = page < 5 ? 3 : 5 - rows;
            due[3 * page + 2] = 6;
        }
        Check.pages("55 rows", g, 5 * 10100 + 14 * 100, due);
    }

    /** "of several by the one that has fewer rows on the first page on which they differ in that". */
    private static void theFewestRows() {
        Galleyforge g = paper(6);
        rows(g, 2, 4);
        heading(g);
        rows(g, 6);
        // 16 for the first page or for the second one
        Check.pages("2 and 6, or 6 and 2", g, 10016, 1, 0, 2, 2, 0, 6, 1, 0, 6);
        g = paper(6);
        rows(g, 6, 2, 4);
        heading(g);
        rows(g, 6);
        Check.pages("on the second page", g, 10016, 1, 0, 6, 1, 0, 2, 2, 0, 6, 1, 0, 6);
        g = paper(6);
        Check.addKept(g, NOTE, 5);
        heading(g);
        // 2 lines of the note could come below both rows, and 3 behind them
        Check.pages("a line below the second row", g, 100, 1, 4, 6, 1, 1, 4);
        g = paper(33);
        rows(g, 23);
        heading(g, 3, 5);
        // 100 for the first page, or for one line that is left
        Check.pages("two pages either way", g, 100, 1, 0, 23, 1, 8, 11);
        g = paper(6);
        Check.addMarked(g, NOTE, -1, -1, -1, -1, -1, -1, -1, -1, -1, -1, -1, -1);
        Check.pages("two full pages", g, 0, 6, 0, 6, 6, 0, 6);
    }
}
