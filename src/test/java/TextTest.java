/** Promises 16 to 21: blocks, words, gaps, numbers, widths and heights in tables. */
public final class TextTest {
    public static void main(String[] args) {
        blocksAndWords();
        gaps();
        headingNumbers();
        paragraphNumbers();
        numbersOfVariants();
        columnWidths();
        rowHeights();
        Check.end("TextTest");
    }

    private static void blocksAndWords() {
        Galleyforge g = new Galleyforge();
        Check.noIndex("17 none", () -> g.words(0));
        Check.add(g, Galleyforge.PARAGRAPH, "0", "1");
        g.mark(Galleyforge.ONLY, 1);
        Check.words(g, 0, "2");
        Check.add(g, Galleyforge.TABLE);
        g.style(1, Galleyforge.VARIANT, 0);
        Check.due("16 blocks", g.blocks(), 2);
        Check.due("17 words of all variants", g.words(0), 3);
        Check.due("17 a table has none", g.words(1), 0);
        Check.noIndex("17 block 2", () -> g.words(2));
        Check.noIndex("17 block -1", () -> g.words(-1));
    }

    private static void gaps() {
        Galleyforge g = new Galleyforge();
        Check.noIndex("18 no block", () -> g.gaps(0, 0));
        Check.add(g, Galleyforge.PARAGRAPH, "010101", "0", "01", "0101", "r0", "333333");
        Check.due("18 no patterns", g.gaps(0, 0), 0);
        Check.pattern(g, "01", 1, 1);
        Check.due("18 gap 3, but not 1 and 5", g.gaps(0, 0), 8);
        Check.due("18 too near to the ends", g.gaps(0, 3), 0);
        Check.pattern(g, "1", 1, 3);
        Check.due("18 gaps 2 and 4", g.gaps(0, 0), 4 + 8 + 16);
        Check.due("18 gap 2 of four letters", g.gaps(0, 3), 4);
        Check.due("18 a reference has none", g.gaps(0, 4), 0);
        Check.due("18 one letter", g.gaps(0, 1), 0);
        Check.due("18 two letters", g.gaps(0, 2), 0);
        Check.pattern(g, "010", 2, 2);
        Check.due("18 a lesser level does not count", g.gaps(0, 0), 28);
        Check.pattern(g, "010", 2, 4);
        Check.due("18 a greater level counts", g.gaps(0, 0), 8);
        Check.pattern(g, "101", 1, 5);
        Check.due("18 again a greater one", g.gaps(0, 0), 4 + 8 + 16);
        Check.due("18 others are as they were", g.gaps(0, 5), 0);
        Check.pattern(g, "333", 0, 1);
        Check.due("18 ahead of the first letter", g.gaps(0, 5), 4 + 8);
        Check.pattern(g, "333", 3, 1);
        Check.due("18 behind the last letter", g.gaps(0, 5), 4 + 8 + 16);
        Check.words(g, 0, "333333");
        Check.due("18 a later word", g.gaps(0, 6), 28);
        Check.noIndex("18 word 7", () -> g.gaps(0, 7));
        Check.noIndex("18 word -1", () -> g.gaps(0, -1));
        Check.noIndex("18 block 1", () -> g.gaps(1, 0));
    }

    private static void headingNumbers() {
        Galleyforge g = new Galleyforge();
        Check.noIndex("19 no block", () -> g.number(0, 0));
        int[] levels = {2, 2, 1, 2, 1, 1, 2, 2};
        int[] due = {1, 2, 100, 101, 200, 300, 301, 302};
        for (int k = 0; k < levels.length; k++) {
            Check.add(g, Galleyforge.HEADING);
            g.style(2 * k, Galleyforge.LEVEL, levels[k]);
            Check.add(g, Galleyforge.PARAGRAPH, "0");
        }
        for (int k = 0; k < levels.length; k++) {
            Check.due("19 heading " + k, g.number(0, 2 * k), due[k]);
            Check.due("19 paragraph", g.number(1, 2 * k + 1), 0);
        }
        Check.noIndex("19 variant 2", () -> g.number(2, 0));
        Check.noIndex("19 variant -1", () -> g.number(-1, 0));
        Check.noIndex("19 block 16", () -> g.number(0, 16));
        Check.noIndex("19 block -1", () -> g.number(0, -1));
    }

    private static Galleyforge paragraphs(int... indents) {
        Galleyforge g = new Galleyforge();
        for (int k = 0; k < indents.length; k++) {
            Check.add(g, Galleyforge.PARAGRAPH);
            g.style(k, Galleyforge.INDENT, Math.max(0, indents[k]));
            g.style(k, Galleyforge.NUMBERED, indents[k] < 0 ? 0 : 1);
        }
        return g;
    }

    private static void paragraphNumbers() {
        Galleyforge g = paragraphs(0, 0, 1, 1, 2, 1, 0, 1, -1, 1, 0, 2, 1, 2);
        int[] due = {1, 2, 1, 2, 1, 3, 3, 1, 0, 1, 1, 1, 1, 1};
        for (int k = 0; k < due.length; k++) {
            Check.due("19 numbered " + k, g.number(0, k), due[k]);
        }
        g.block(1, Galleyforge.BREAK);
        Check.due("19 behind a page break", g.number(0, 2), 1);
        Check.due("19 a page break has no number", g.number(0, 1), 0);
        g.style(1, Galleyforge.NUMBERED, 1);
        Check.due("19 nor has a numbered one", g.number(0, 1), 0);
    }

    private static void numbersOfVariants() {
        Galleyforge g = paragraphs(0, -1, 0);
        g.style(1, Galleyforge.VARIANT, 1);
        Check.due("19 what is not there does not count", g.number(0, 2), 2);
        Check.due("19 in the other variant it does", g.number(1, 2), 1);
        Check.due("19 not there", g.number(0, 1), -1);
        Check.due("19 there without a number", g.number(1, 1), 0);
        Check.add(g, Galleyforge.HEADING);
        Check.add(g, Galleyforge.HEADING);
        g.style(3, Galleyforge.VARIANT, 0);
        Check.due("19 heading", g.number(0, 4), 200);
        Check.due("19 heading of the other variant", g.number(1, 4), 100);
        Check.due("19 heading that is not there", g.number(1, 3), -1);
    }

    private static void columnWidths() {
        Galleyforge g = new Galleyforge();
        Check.noIndex("20 no block", () -> g.columnWidth(0, 0));
        Check.add(g, Galleyforge.TABLE);
        Check.noIndex("20 no column", () -> g.columnWidth(0, 0));
        g.cell(0, 0, 0, 1, 5, 20);
        Check.due("20 best width", g.columnWidth(0, 0), 20);
        Check.noIndex("20 column 1", () -> g.columnWidth(0, 1));
        g.cell(0, 1, 0, 3, 17, 27);
        widths(g, "20 lack is shared out", 23, 2, 2);
        g.cell(0, 1, 0, 3, 17, 28);
        widths(g, "20 and 1 more for the first ones", 23, 3, 2);
        g.cell(0, 2, 1, 1, 0, 50);
        widths(g, "20 least ones are 9, 4, 4, wishes 11, 46, 0", 18, 38, 4);
        g.cell(0, 3, 0, 1, 60, 60);
        widths(g, "20 all least ones are the paper's width", 60, 0, 0);
        g.cell(0, 3, 0, 1, 0, 0);
        widths(g, "20 a cell takes the place of another", 18, 38, 4);
        g.cell(0, 2, 1, 1, 0, 0);
        g.cell(0, 1, 0, 2, 0, 0);
        Check.noIndex("20 the third column is gone", () -> g.columnWidth(0, 2));
        Check.noIndex("20 column -1", () -> g.columnWidth(0, -1));
        Check.noIndex("20 block 1", () -> g.columnWidth(1, 0));
        Check.add(g, Galleyforge.PARAGRAPH);
        Check.noIndex("20 no table", () -> g.columnWidth(1, 0));
        cellsInOrder();
        moreForTheFirstColumns();
    }

    private static void cellsInOrder() {
        Galleyforge g = new Galleyforge();
        Check.add(g, Galleyforge.TABLE);
        g.cell(0, 0, 0, 2, 0, 10);
        g.cell(0, 3, 0, 1, 0, 6);
        widths(g, "20 lesser spans first", 8, 2);
        g.cell(0, 1, 1, 2, 0, 10);
        widths(g, "20 lesser rows first", 8, 6, 4);
        g.cell(0, 0, 1, 2, 0, 4);
        g.cell(0, 0, 0, 2, 0, 20);
        widths(g, "20 lesser columns first", 13, 9, 1);
    }

    private static void moreForTheFirstColumns() {
        Galleyforge g = new Galleyforge();
        Check.add(g, Galleyforge.TABLE);
        g.paper(31, 6);
        g.cell(0, 0, 0, 1, 10, 10);
        g.cell(0, 0, 1, 1, 0, 100);
        g.cell(0, 0, 2, 1, 0, 100);
        widths(g, "20 the first column gets what is left over", 11, 10, 10);
        g.cell(0, 0, 0, 1, 0, 1);
        widths(g, "20 wishes 1, 100, 100 of 31", 1, 15, 15);
        g.cell(0, 0, 0, 1, 0, 100);
        widths(g, "20 wishes 100, 100, 100 of 31", 11, 10, 10);
        g.paper(32, 6);
        widths(g, "20 wishes 100, 100, 100 of 32", 11, 11, 10);
        g.cell(0, 0, 0, 3, 32, 32);
        widths(g, "20 all least ones are the paper's width", 11, 11, 10);
        g.paper(40, 6);
        widths(g, "20 a least width above the best one is no wish", 12, 14, 14);
        g.cell(0, 0, 1, 1, 0, 20);
        g.cell(0, 0, 2, 1, 0, 20);
        widths(g, "20 all best ones are the paper's width", 0, 20, 20);
    }

    private static void widths(Galleyforge g, String what, int... due) {
        for (int column = 0; column < due.length; column++) {
            Check.due(what + ", column " + column, g.columnWidth(0, column), due[column]);
        }
    }

    private static void rowHeights() {
        Galleyforge g = new Galleyforge();
        Check.noIndex("21 no block", () -> g.rowHeight(0, 0));
        Check.add(g, Galleyforge.TABLE);
        Check.noIndex("21 no row", () -> g.rowHeight(0, 0));
        g.cell(0, 2, 0, 1, 0, 120);
        Check.due("21 without cells", g.rowHeight(0, 0), 1);
        Check.due("21 120 in 60", g.rowHeight(0, 2), 2);
        g.cell(0, 2, 0, 1, 0, 121);
        Check.due("21 121 in 60", g.rowHeight(0, 2), 3);
        g.cell(0, 1, 1, 2, 0, 0);
        Check.due("21 no width", g.rowHeight(0, 1), 1);
        g.cell(0, 2, 1, 1, 60, 60);
        Check.due("21 the width 0 has 1 line", g.rowHeight(0, 2), 1);
        g.cell(0, 0, 0, 2, 0, 200);
        Check.due("21 a span of 60", g.rowHeight(0, 0), 4);
        g.cell(0, 2, 0, 1, 1, 200);
        Check.due("21 the width 1", g.rowHeight(0, 2), 200);
        Check.noIndex("21 row 3", () -> g.rowHeight(0, 3));
        Check.noIndex("21 row -1", () -> g.rowHeight(0, -1));
        Check.noIndex("21 block -1", () -> g.rowHeight(-1, 0));
        Check.add(g, Galleyforge.PARAGRAPH, "0");
        Check.noIndex("21 no table", () -> g.rowHeight(1, 0));
    }
}
