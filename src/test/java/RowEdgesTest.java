/** The boundary cases of the section 'Rows', sentence by sentence. */
public final class RowEdgesTest {
    public static void main(String[] args) {
        rowsOfParagraphs();
        rowsOfHeadings();
        rowsOfColumns();
        rowsOfTables();
        rowsOfContents();
        rowsOfIndexes();
        rowsOfBreaks();
        cellsThatTakeAPlace();
        cellsThatOverlap();
        rowsAndColumnsAsNeeded();
        whatIsLackingIsShared();
        inWhateverOrderTheyAreTold();
        allBestOnes();
        allLeastOnes();
        betweenBoth();
        aLeastAboveItsBest();
        linesOfCells();
        heightsOfRows();
        Check.end("RowEdgesTest");
    }

    /** The rows of a page of variant 0, each told as 1000 times its block and its index. */
    private static void rows(String what, Galleyforge g, int page, int... due) {
        Check.due(what + ": rows of page " + page, g.on(0, page, 0), due.length);
        for (int row = 0; row < due.length; row++) {
            Check.due(what + ": row " + row, g.textAt(0, page, row), due[row]);
        }
        Check.noIndex(what + ": no more rows", () -> g.textAt(0, page, due.length));
    }

    /** "a paragraph one of the height 1 for each line". */
    private static void rowsOfParagraphs() {
        Galleyforge g = Check.paper(12);
        Check.add(g, Galleyforge.PARAGRAPH);
        Check.due("none without words", g.pages(0), 0);
        Check.addLines(g, 1);
        rows("one line", g, 1, 1000);
        Check.addLines(g, 3);
        rows("three lines", g, 1, 1000, 2000, 2001, 2002);
        Check.due("their heights", g.on(0, 1, 2), 4);
        Check.words(g, 0, "0", "0", "0");
        rows("three words in a line", g, 1, 0, 1000, 2000, 2001, 2002);
    }

    /** "a heading always one of the height 2, with all its words". */
    private static void rowsOfHeadings() {
        Galleyforge g = Check.paper(12);
        Check.add(g, Galleyforge.HEADING);
        rows("without words", g, 1, 0);
        Check.due("its height", g.on(0, 1, 2), 2);
        for (int at = 0; at < 12; at++) {
            Check.words(g, 0, "333333");
        }
        rows("with twelve words", g, 1, 0);
        Check.due("its height again", g.on(0, 1, 2), 2);
        Check.due("the first word", g.whereIs(0, 0, 0), 1000);
        Check.due("the last word", g.whereIs(0, 0, 11), 1000);
        Check.due("it has no lines", g.lines(0, 0), 0);
        g.style(0, Galleyforge.LEVEL, 2);
        Check.due("the same on the level 2", g.on(0, 1, 2), 2);
        rows("the same rows", g, 1, 0);
    }

    /** "columns with n lines h rows of the height 1, where h is the half of n, rounded up". */
    private static void rowsOfColumns() {
        Galleyforge g = Check.paper(12);
        Check.add(g, Galleyforge.COLUMNS);
        Check.due("none without words", g.pages(0), 0);
        for (int lines = 1; lines <= 12; lines++) {
            Check.words(g, 0, "321");
            int half = lines / 2 + lines % 2;
            Check.due("lines", g.lines(0, 0), lines);
            Check.due("rows of " + lines, g.on(0, 1, 0), half);
            Check.due("heights of " + lines, g.on(0, 1, 2), half);
            for (int line = 0; line < lines; line++) {
                Check.due("line " + line + " of " + lines, g.whereIs(0, 0, line), 1000 + (line < half ? line : line - half));
            }
        }
        rows("the rows of twelve", g, 1, 0, 1, 2, 3, 4, 5);
    }

    /** "a table one for each of its rows". */
    private static void rowsOfTables() {
        Galleyforge g = Check.paper(12);
        Check.add(g, Galleyforge.TABLE);
        Check.due("none at first", g.pages(0), 0);
        g.cell(0, 3, 0, 1, 0, 90);
        rows("the fourth row alone has a cell", g, 1, 0, 1, 2, 3);
        Check.due("1, 1, 1 and 3", g.on(0, 1, 2), 6);
        g.cell(0, 1, 1, 1, 0, 0);
        Check.due("a cell of the width 0", g.on(0, 1, 2), 6);
        g.cell(0, 0, 0, 2, 0, 40);
        Check.due("2, 1, 1 and 5", g.on(0, 1, 2), 2 + 1 + 1 + g.rowHeight(0, 3));
    }

    /** "contents one of the height 1 for each heading of the text". */
    private static void rowsOfContents() {
        Galleyforge g = Check.paper(40);
        Check.add(g, Galleyforge.CONTENTS);
        Check.due("none without headings", g.pages(0), 0);
        Check.marked(g, Check.add(g, Galleyforge.HEADING), Galleyforge.TERM, 0, "0");
        rows("a heading behind, with a term", g, 1, 0, 1000);
        g.block(0, Galleyforge.HEADING);
        g.style(0, Galleyforge.LEVEL, 2);
        rows("a heading ahead, of the level 2", g, 1, 0, 1000, 1001, 2000);
        g.style(2, Galleyforge.VARIANT, 1);
        rows("one that is not there", g, 1, 0, 1000);
        Check.due("in the other variant", g.on(1, 1, 0), 4);
        Check.due("heights there", g.on(1, 1, 2), 2 + 2 + 2);
        for (int k = 3; k < 16; k++) {
            Check.add(g, Galleyforge.HEADING);
        }
        Check.due("fourteen headings", allRows(g, 0), 14 + 14);
        Check.due("fifteen headings", allRows(g, 1), 15 + 15);
        Check.due("the last one", g.contentsAt(1, 14) / 1000, 15);
    }

    private static int allRows(Galleyforge g, int variant) {
        int rows = 0;
        for (int page = 1; page <= g.pages(variant); page++) {
            rows += g.on(variant, page, 0);
        }
        return rows;
    }

    /** "an index one of the height 1 for each term that some word of the text has". */
    private static void rowsOfIndexes() {
        Galleyforge g = Check.paper(40);
        Check.add(g, Galleyforge.INDEX);
        Check.due("none without terms", g.pages(0), 0);
        Check.add(g, Galleyforge.HEADING, "0");
        rows("a word without a term", g, 1, 1000);
        Check.marked(g, 1, Galleyforge.TERM, 0, "0");
        rows("one term", g, 1, 0, 1000);
        Check.marked(g, 1, Galleyforge.TERM, 0, "0");
        rows("the same term again", g, 1, 0, 1000);
        Check.marked(g, Check.add(g, Galleyforge.PARAGRAPH), Galleyforge.TERM, 7, "0");
        Check.marked(g, Check.add(g, Galleyforge.COLUMNS), Galleyforge.TERM, 3, "0");
        rows("terms of all kinds of blocks", g, 1, 0, 1, 2, 1000, 2000, 3000);
        for (int term = 0; term < 8; term++) {
            Check.marked(g, 3, Galleyforge.TERM, term, "0");
        }
        Check.due("eight terms", g.indexAt(0, 7), 7);
        Check.noIndex("not more", () -> g.indexAt(0, 8));
        Galleyforge h = Check.paper(12);
        Check.add(h, Galleyforge.INDEX);
        Check.add(h, Galleyforge.HEADING);
        h.mark(Galleyforge.ONLY, 1);
        Check.marked(h, 1, Galleyforge.TERM, 5, "0");
        rows("a term of the other variant", h, 1, 1000);
        Check.due("there it has a row", h.on(1, 1, 0), 2);
        h.mark(Galleyforge.TERM, 4);
        Check.due("a term that is drafted has none", h.on(1, 1, 0), 2);
    }

    /** "a page break none". */
    private static void rowsOfBreaks() {
        Galleyforge g = Check.paper(12);
        for (int k = 0; k < 3; k++) {
            Check.add(g, Galleyforge.BREAK);
        }
        Check.due("page breaks alone", g.pages(0), 0);
        g.block(1, Galleyforge.HEADING);
        Check.pages("page breaks around a heading", g, 0, 1, 0, 2);
    }

    private static Galleyforge table(int paper, int[]... cells) {
        Galleyforge g = new Galleyforge();
        g.paper(paper, 12);
        Check.add(g, Galleyforge.TABLE);
        for (int[] c : cells) {
            g.cell(0, c[0], c[1], c[2], c[3], c[4]);
        }
        return g;
    }

    private static int[] cell(int row, int column, int span, int least, int best) {
        return new int[] {row, column, span, least, best};
    }

    private static void widths(String what, Galleyforge g, int... due) {
        for (int column = 0; column < due.length; column++) {
            Check.due(what + ": column " + column, g.columnWidth(0, column), due[column]);
        }
        Check.noIndex(what + ": no more columns", () -> g.columnWidth(0, due.length));
    }

    private static void heights(String what, Galleyforge g, int... due) {
        for (int row = 0; row < due.length; row++) {
            Check.due(what + ": row " + row, g.rowHeight(0, row), due[row]);
        }
        Check.noIndex(what + ": no more rows", () -> g.rowHeight(0, due.length));
    }

    /** "A cell that is told for a row and column for which one was told takes its place". */
    private static void cellsThatTakeAPlace() {
        Galleyforge g = table(60, cell(0, 0, 3, 0, 30));
        widths("three columns", g, 10, 10, 10);
        Check.due("another span", g.cell(0, 0, 0, 1, 0, 7), 1);
        widths("one column", g, 7);
        Check.due("another row", g.cell(0, 1, 0, 1, 0, 5), 2);
        widths("the greater one", g, 7);
        Check.due("a lesser one in its place", g.cell(0, 0, 0, 1, 0, 2), 2);
        widths("the other one then", g, 5);
        Check.due("its rows stay", g.cell(0, 1, 0, 1, 0, 0), 2);
        widths("narrow", g, 2);
    }

    /** "otherwise cells may overlap". */
    private static void cellsThatOverlap() {
        Galleyforge g = table(60, cell(0, 0, 3, 0, 30), cell(0, 1, 2, 0, 30), cell(0, 2, 1, 0, 12));
        // 12, then 18 more for both last columns, then none for all
        widths("all three count", g, 0, 9, 21);
        heights("all three are in the row", g, 1);
        g.cell(0, 0, 2, 1, 0, 50);
        widths("on 60 all have room", g, 0, 0, 50);
        g.paper(30, 12);
        widths("on 30 they have not", g, 0, 0, 30);
        heights("50 in 30", g, 2);
    }

    /** "A table has as many rows, from 0 on, and as many columns as its cells need; none at first." */
    private static void rowsAndColumnsAsNeeded() {
        Galleyforge g = table(60);
        widths("none at first", g);
        heights("none at first", g);
        widths("one cell", table(60, cell(0, 0, 1, 0, 0)), 0);
        heights("one cell", table(60, cell(0, 0, 1, 0, 0)), 1);
        widths("the third column", table(60, cell(0, 2, 1, 0, 9)), 0, 0, 9);
        heights("the fourth row", table(60, cell(3, 0, 1, 0, 0)), 1, 1, 1, 1);
        widths("from the second column on", table(60, cell(0, 1, 2, 0, 8)), 0, 4, 4);
        Check.due("rows by the last cell", g.cell(0, 2, 0, 1, 0, 0), 3);
        Check.due("rows by the last row", g.cell(0, 1, 0, 1, 0, 0), 3);
        Check.due("rows by a later row", g.cell(0, 3, 2, 1, 0, 0), 4);
    }

    /** "each of its columns gets what is lacking divided by the span, and 1 more as many of the first ones". */
    private static void whatIsLackingIsShared() {
        widths("nothing lacks", table(60, cell(0, 0, 3, 0, 0)), 0, 0, 0);
        widths("1 of three", table(60, cell(0, 0, 3, 0, 1)), 1, 0, 0);
        widths("2 of three", table(60, cell(0, 0, 3, 0, 2)), 1, 1, 0);
        widths("3 of three", table(60, cell(0, 0, 3, 0, 3)), 1, 1, 1);
        widths("4 of three", table(60, cell(0, 0, 3, 0, 4)), 2, 1, 1);
        widths("3 of two", table(60, cell(0, 1, 2, 0, 3)), 0, 2, 1);
        widths("the same is there", table(60, cell(0, 0, 1, 0, 8), cell(1, 0, 2, 0, 8)), 8, 0);
        widths("less is wanted", table(60, cell(0, 0, 1, 0, 8), cell(1, 0, 2, 0, 7)), 8, 0);
        widths("1 more is wanted", table(60, cell(0, 0, 1, 0, 8), cell(1, 0, 2, 0, 9)), 9, 0);
        widths("more is wanted in the same span", table(60, cell(0, 0, 2, 0, 4), cell(1, 0, 2, 0, 7)), 4, 3);
        // on 30 the least ones count: 11 and 10, and 9 for e
        widths("least ones alike", table(30, cell(0, 0, 2, 21, 61)), 16, 14);
        widths("least ones of three", table(30, cell(0, 0, 3, 32, 200)), 11, 11, 10);
    }

    /** "Cells are gone through by rising spans, ... rising rows, ... rising columns". */
    private static void inWhateverOrderTheyAreTold() {
        int[][] cells = {cell(0, 0, 2, 0, 9), cell(1, 1, 2, 0, 11), cell(0, 1, 1, 0, 2), cell(0, 2, 1, 0, 4),
            cell(1, 0, 3, 0, 40)};
        // 0, 2, 4; 7 lack of 9: 4, 5, 4; 2 lack of 11: 4, 6, 5; 25 lack of 40: 9, 8, 8
        int[] due = {4 + 9, 6 + 8, 5 + 8};
        for (int turn = 0; turn < 5; turn++) {
            Galleyforge g = table(60);
            for (int k = 0; k < 5; k++) {
                int[] c = cells[(turn + k) % 5];
                g.cell(0, c[0], c[1], c[2], c[3], c[4]);
            }
            widths("from the cell " + turn + " on", g, due);
        }
        widths("lesser rows first", table(60, cell(1, 0, 2, 0, 4), cell(0, 1, 2, 0, 10)), 0, 5, 5);
        widths("lesser rows first again", table(60, cell(0, 0, 2, 0, 4), cell(1, 1, 2, 0, 10)), 2, 6, 4);
        widths("lesser columns first", table(60, cell(0, 1, 2, 0, 4), cell(0, 0, 2, 0, 10)), 5, 5, 0);
        widths("lesser spans first", table(60, cell(0, 0, 2, 0, 9), cell(3, 1, 1, 0, 9)), 0, 9);
    }

    /** "if all best widths are, together, at most the width of the paper, the columns have these widths". */
    private static void allBestOnes() {
        int[][] cells = {cell(0, 0, 1, 10, 20), cell(0, 1, 1, 0, 11), cell(0, 2, 1, 5, 9)};
        widths("40 of 41", table(41, cells), 20, 11, 9);
        widths("40 of 40", table(40, cells), 20, 11, 9);
        // e is 24, of the wishes 10, 11 and 4: 9, 10 and 3, and 2 are left over
        widths("40 of 39", table(39, cells), 10 + 9 + 1, 10 + 1, 5 + 3);
    }

    /** "otherwise, if all least ones are, together, at least the width of the paper, they have these". */
    private static void allLeastOnes() {
        widths("30 of 30", table(30, cell(0, 0, 1, 20, 21), cell(0, 1, 1, 10, 100)), 20, 10);
        widths("31 of 30", table(30, cell(0, 0, 1, 20, 21), cell(0, 1, 1, 11, 100)), 20, 11);
        widths("29 of 30", table(30, cell(0, 0, 1, 20, 21), cell(0, 1, 1, 9, 100)), 21, 9);
        widths("180 of 30", table(30, cell(0, 0, 1, 60, 60), cell(0, 1, 1, 60, 200), cell(0, 2, 1, 60, 60)), 60, 60, 60);
        widths("best ones that fit come first", table(60, cell(0, 0, 1, 30, 30), cell(0, 1, 1, 30, 30)), 30, 30);
    }

    /** "a column has its least one and e times g divided by s, together, and 1 more as many of the first columns". */
    private static void betweenBoth() {
        widths("nothing is left over", table(30, cell(0, 0, 1, 0, 10), cell(0, 1, 1, 0, 20), cell(0, 2, 1, 0, 30)), 5, 10, 15);
        widths("1 is left over", table(30, cell(0, 0, 1, 0, 10), cell(0, 1, 1, 0, 10), cell(0, 2, 1, 0, 20)), 8, 7, 15);
        widths("2 are left over", table(30, cell(0, 0, 1, 0, 7), cell(0, 1, 1, 0, 11), cell(0, 2, 1, 0, 13)), 7, 11, 12);
        widths("a column without a wish gets 1 more",
                table(30, cell(0, 0, 1, 9, 9), cell(0, 1, 1, 0, 20), cell(0, 2, 1, 0, 20)), 10, 10, 10);
        widths("one column", table(30, cell(0, 0, 1, 5, 200)), 30);
        widths("one wish of three", table(30, cell(0, 1, 1, 5, 200), cell(0, 2, 1, 10, 10)), 0, 20, 10);
    }

    /** "g what the best one of a column is above its least one, 0 if it is not". */
    private static void aLeastAboveItsBest() {
        // best 50, 0; least 15 and 15, since 30 are wanted of both
        Galleyforge g = table(40, cell(0, 0, 1, 0, 50), cell(1, 0, 2, 30, 30));
        widths("the second column has more than its best one", g, 15 + 10, 15);
        g.paper(50, 12);
        widths("the best ones fit", g, 50, 0);
        g.cell(0, 0, 2, 1, 0, 20);
        // e is 20, of the wishes 35, 0 and 20
        widths("wishes 35 and 20", g, 15 + 12 + 1, 15, 7);
    }

    /** "its best width divided by the widths of its columns together, rounded up, lines, but at least 1; 1, if 0". */
    private static void linesOfCells() {
        heights("the best width", table(60, cell(0, 0, 1, 0, 60)), 1);
        heights("1 more", table(60, cell(0, 0, 1, 0, 61)), 2);
        heights("twice", table(60, cell(0, 0, 1, 0, 120)), 2);
        heights("twice and 1 more", table(60, cell(0, 0, 1, 0, 121)), 3);
        heights("a best width of 0", table(60, cell(0, 0, 1, 0, 0), cell(1, 0, 1, 0, 10)), 1, 1);
        heights("widths of 0", table(30, cell(0, 0, 1, 0, 0), cell(1, 1, 1, 60, 60)), 1, 1);
        // the first column gets nothing of 30, all of which the second one has
        Galleyforge g = table(30, cell(0, 0, 1, 0, 200), cell(1, 1, 1, 30, 30));
        widths("a column of the width 0", g, 0, 30);
        heights("200 in 0", g, 1, 1);
        g.cell(0, 1, 1, 1, 29, 30);
        widths("1 is left", g, 1, 29);
        heights("200 in 1", g, 200, 2);
        heights("two columns together", table(30, cell(0, 0, 2, 0, 91)), 4);
        // 16, 7 and 7 wide
        heights("of three columns, two", table(30, cell(0, 1, 2, 0, 60), cell(1, 0, 1, 0, 60)), 5, 4);
    }

    /** "A row is as high as the greatest number of lines of its cells; 1 without cells." */
    private static void heightsOfRows() {
        Galleyforge g = table(30, cell(0, 0, 1, 10, 20), cell(0, 1, 1, 10, 30), cell(0, 2, 1, 10, 10), cell(2, 2, 1, 0, 41));
        widths("each 10", g, 10, 10, 10);
        heights("2, 3 and 1; none; 5", g, 3, 1, 5);
        g.cell(0, 0, 0, 1, 10, 200);
        heights("20, 3 and 1", g, 20, 1, 5);
        g.cell(0, 0, 0, 3, 10, 31);
        g.cell(0, 0, 1, 1, 10, 10);
        widths("0, 10 and 20", g, 0, 10, 20);
        heights("31 in 30, 41 in 20", g, 2, 1, 3);
    }
}
