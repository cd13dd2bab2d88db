/** Promises 30, 31 and 37 to 40: rounds, labels, contents, the index. */
public final class ReferencesTest {
    public static void main(String[] args) {
        labelPage();
        labelsOfColumns();
        settled();
        threeDigits();
        notSettled();
        contentsAt();
        indexAt();
        range();
        Check.end("ReferencesTest");
    }

    private static void labelPage() {
        Galleyforge g = Check.paper(6);
        Check.due("37 no blocks", g.labelPage(0, 0), -1);
        Check.addLines(g, 8);
        g.take(0, 7);
        Check.marked(g, 0, Galleyforge.LABEL, 0, "333333");
        Check.due("37 the second page", g.labelPage(0, 0), 2);
        Check.due("37 no word has it", g.labelPage(0, 1), -1);
        Check.marked(g, 0, Galleyforge.LABEL, 0, "333333");
        Check.due("37 the first row counts", g.labelPage(0, 0), 2);
        g.take(0, 0);
        g.mark(Galleyforge.LABEL, 0);
        Check.spell(g, "333333");
        g.word(0, 0);
        Check.due("37 now that is on the first page", g.labelPage(0, 0), 1);
        g.take(0, 0);
        g.mark(Galleyforge.LABEL, 5);
        g.mark(Galleyforge.ONLY, 1);
        Check.spell(g, "333333");
        g.word(0, 0);
        Check.due("37 not there", g.labelPage(0, 5), -1);
        Check.due("37 there", g.labelPage(1, 5), 1);
        Check.noIndex("37 label 6", () -> g.labelPage(0, 6));
        Check.noIndex("37 label -1", () -> g.labelPage(0, -1));
        Check.noIndex("37 variant 2", () -> g.labelPage(2, 0));
        Check.noIndex("37 variant -1", () -> g.labelPage(-1, 0));
    }

    /** The word 8 begins in the row 0, so that it is ahead of the word 1. */
    private static void labelsOfColumns() {
        Galleyforge g = Check.paper(6);
        Check.add(g, Galleyforge.COLUMNS);
        for (int k = 0; k < 12; k++) {
            g.mark(Galleyforge.LABEL, k == 5 || k == 6 ? 3 : -1);
            Check.words(g, 0, "333333");
        }
        Check.addTable(g, 1, 6);
        Check.due("37 all columns are on a page", g.labelPage(0, 3), 1);
        g.block(0, Galleyforge.PARAGRAPH);
        Check.words(g, 0, "333333");
        // one row, five rows of columns; the sixth one, with the word 5, is parted from them
        Check.due("37 the word 5", g.whereIs(0, 1, 5), 2005);
        g.take(1, 6);
        g.take(1, 5);
        g.mark(Galleyforge.LABEL, 3);
        Check.spell(g, "333333");
        g.word(1, 0);
        Check.due("37 eleven words", g.words(1), 11);
        Check.due("37 the first word", g.labelPage(0, 3), 2);
    }

    private static void settled() {
        Galleyforge g = Check.paper(6);
        // 24 + 3 + 3, or 24 + 3 + 6
        Check.add(g, Galleyforge.PARAGRAPH, "3333", "r2");
        Check.due("30 one round", g.rounds(0), 1);
        Check.due("22 one line", g.lines(0, 0), 1);
        pagesOf(g, 7);
        int place = Check.add(g, Galleyforge.PARAGRAPH);
        Check.marked(g, place, Galleyforge.LABEL, 2, "0");
        Check.due("37 page 9", g.labelPage(0, 2), 9);
        Check.due("30 one round for page 9", g.rounds(0), 1);
        Check.due("22 one line for page 9", g.lines(0, 0), 1);
        g.cell(2, 3, 0, 1, 0, 180);
        Check.due("37 page 10", g.labelPage(0, 2), 10);
        Check.due("30 two rounds for page 10", g.rounds(0), 2);
        Check.due("31 settled", g.isSettled(0) ? 1 : 0, 1);
        Check.due("22 two lines for page 10", g.lines(0, 0), 2);
        Check.due("25 lines of the last round", g.demerits(0, 0), 6410L * 6410 + 3000 + 100);
        Check.due("26 lines of the last round", g.demeritsByAll(0, 0), 6410L * 6410 + 3000 + 100);
        g.take(0, 1);
        Check.due("30 two rounds without a reference", g.rounds(0), 2);
        Check.due("30 two rounds in the other variant", g.rounds(1), 2);
        g.style(place, Galleyforge.VARIANT, 1);
        Check.due("30 one round without the label", g.rounds(0), 1);
    }

    /** Each row has a note of 5 lines, and so a page of its own. */
    private static void threeDigits() {
        Galleyforge g = Check.paper(6);
        for (int place = 0; place < 8; place++) {
            Check.add(g, Galleyforge.PARAGRAPH);
            g.style(place, Galleyforge.INDENT, 2);
            for (int at = 0; at < 12; at++) {
                Check.marked(g, place, Galleyforge.NOTE, 5, "33");
            }
        }
        // 21 + 3 + 6, or 21 + 3 + 9
        int last = Check.add(g, Galleyforge.PARAGRAPH, "3331", "r3");
        Check.marked(g, Check.add(g, Galleyforge.HEADING), Galleyforge.LABEL, 3, "0");
        Check.due("37 page 97", g.labelPage(0, 3), 97);
        Check.due("22 one line with two digits", g.lines(0, last), 1);
        Check.due("30 two rounds", g.rounds(0), 2);
        g.block(0, Galleyforge.TABLE);
        g.cell(0, 0, 0, 1, 0, 180);
        g.cell(0, 1, 0, 1, 0, 180);
        Check.due("37 page 99", g.labelPage(0, 3), 99);
        Check.due("22 one line for page 99", g.lines(0, last + 1), 1);
        g.cell(0, 2, 0, 1, 0, 180);
        Check.due("37 page 100", g.labelPage(0, 3), 100);
        Check.due("22 two lines with three digits", g.lines(0, last + 1), 2);
        Check.due("30 two rounds for three digits", g.rounds(0), 2);
        Check.due("31 settled", g.isSettled(0) ? 1 : 0, 1);
    }

    /** Adds as many pages, each with a row of 6. */
    private static void pagesOf(Galleyforge g, int pages) {
        for (int left = pages; left > 0; left -= 4) {
            Check.addTable(g, Math.min(4, left), 6);
        }
    }

    /**
     * With one digit the first paragraph has two rows, and fills a page with the second one; both figures are alone
     * behind it, and the label is on page 10. With two digits there are three rows, and the figures stand below.
     */
    private static void notSettled() {
        Galleyforge g = Check.paper(8);
        g.figure(0, 5);
        g.figure(1, 5);
        pagesOf(g, 6);
        Check.add(g, Galleyforge.BREAK);
        int first = Check.add(g, Galleyforge.PARAGRAPH, "333", "r4", "1");
        Check.marked(g, first, Galleyforge.MENTION, 0, "333333");
        g.style(first, Galleyforge.KEEP, 1);
        int second = Check.addLines(g, 2);
        g.style(second, Galleyforge.KEEP, 1);
        Check.marked(g, second, Galleyforge.MENTION, 1, "333333");
        Check.add(g, Galleyforge.BREAK);
        int heading = Check.add(g, Galleyforge.HEADING, "0");
        Check.due("30 nothing refers to the heading", g.rounds(0), 1);
        Check.due("37 nothing refers to the heading", g.whereIs(0, heading, 0), 10000);
        Check.due("36 it is alone", g.figureAt(0, 0), 82);
        Check.due("36 it is alone", g.figureAt(0, 1), 92);
        Check.marked(g, heading, Galleyforge.LABEL, 4, "0");
        Check.due("30 three rounds", g.rounds(0), 3);
        Check.due("31 not settled", g.isSettled(0) ? 1 : 0, 0);
        Check.due("22 lines with two digits", g.lines(0, first), 3);
        Check.due("37 the page does not have two digits", g.labelPage(0, 4), 9);
        Check.due("36 it is below", g.figureAt(0, 0), 71);
        Check.due("36 it is below", g.figureAt(0, 1), 81);
        Check.due("27 pages", g.pages(0), 9);
        Check.due("28 cost", g.cost(0), g.costAnew(0));
        g.style(heading, Galleyforge.VARIANT, 1);
        Check.due("31 settled without the heading", g.isSettled(0) ? 1 : 0, 1);
        Check.due("31 not settled in the other variant", g.isSettled(1) ? 1 : 0, 0);
    }

    private static void contentsAt() {
        Galleyforge g = Check.paper(6);
        Check.noIndex("38 no headings", () -> g.contentsAt(0, 0));
        Check.add(g, Galleyforge.CONTENTS);
        Check.add(g, Galleyforge.HEADING);
        Check.add(g, Galleyforge.BREAK);
        Check.add(g, Galleyforge.HEADING, "0");
        g.style(3, Galleyforge.LEVEL, 2);
        Check.add(g, Galleyforge.HEADING);
        g.style(1, Galleyforge.VARIANT, 1);
        Check.due("38 variant 0", g.contentsAt(0, 0), 3002);
        Check.due("38 variant 0", g.contentsAt(0, 1), 4002);
        Check.due("38 variant 1", g.contentsAt(1, 0), 1001);
        Check.due("38 variant 1", g.contentsAt(1, 2), 4002);
        Check.due("32 the contents of variant 0", g.on(0, 1, 0), 2);
        Check.due("32 the contents of variant 1", g.on(1, 1, 0), 4);
        Check.noIndex("38 heading 2", () -> g.contentsAt(0, 2));
        Check.noIndex("38 heading 3", () -> g.contentsAt(1, 3));
        Check.noIndex("38 heading -1", () -> g.contentsAt(0, -1));
        Check.noIndex("38 variant 2", () -> g.contentsAt(2, 0));
        Check.noIndex("38 variant -1", () -> g.contentsAt(-1, 0));
    }

    private static void indexAt() {
        Galleyforge g = Check.paper(6);
        Check.noIndex("39 no terms", () -> g.indexAt(0, 0));
        Check.add(g, Galleyforge.HEADING);
        Check.marked(g, 0, Galleyforge.TERM, 7, "0");
        Check.marked(g, 0, Galleyforge.TERM, 2, "0");
        Check.marked(g, 0, Galleyforge.TERM, 5, "0");
        Check.marked(g, 0, Galleyforge.TERM, 2, "0");
        index(g, 0, 2, 5, 7);
        g.key(2, 3);
        index(g, 0, 5, 7, 2);
        g.key(7, 3);
        g.key(5, 4);
        g.key(0, 1);
        index(g, 0, 2, 7, 5);
        g.mark(Galleyforge.ONLY, 1);
        Check.marked(g, 0, Galleyforge.TERM, 0, "0");
        index(g, 0, 2, 7, 5);
        index(g, 1, 0, 2, 7, 5);
        Check.add(g, Galleyforge.INDEX);
        Check.due("32 the index of variant 0", g.on(0, 1, 0), 4);
        Check.due("32 the index of variant 1", g.on(1, 1, 0), 5);
        g.style(0, Galleyforge.VARIANT, 1);
        index(g, 0);
        Check.due("27 an empty index", g.pages(0), 0);
        Check.noIndex("39 term -1", () -> g.indexAt(1, -1));
        Check.noIndex("39 variant 2", () -> g.indexAt(2, 0));
        Check.noIndex("39 variant -1", () -> g.indexAt(-1, 0));
    }

    private static void index(Galleyforge g, int variant, int... due) {
        for (int k = 0; k < due.length; k++) {
            Check.due("39 index " + k, g.indexAt(variant, k), due[k]);
        }
        Check.noIndex("39 no more terms", () -> g.indexAt(variant, due.length));
    }

    /** A heading on each page. */
    private static void range() {
        Galleyforge g = Check.paper(6);
        for (int page = 1; page <= 8; page++) {
            g.block(0, Galleyforge.HEADING);
            if (page < 8) {
                g.block(0, Galleyforge.BREAK);
            }
        }
        int[] pages = {8, 2, 3, 3, 1, 5};
        for (int page : pages) {
            Check.marked(g, 2 * (page - 1), Galleyforge.TERM, 6, "0");
        }
        g.mark(Galleyforge.ONLY, 1);
        Check.marked(g, 2 * 3, Galleyforge.TERM, 6, "0");
        Check.marked(g, 2 * 6, Galleyforge.TERM, 1, "0");
        ranges(g, 0, 6, 1003, 5005, 8008);
        ranges(g, 1, 6, 1005, 8008);
        ranges(g, 0, 1, 7007);
        ranges(g, 0, 0);
        Check.noIndex("40 range -1", () -> g.range(0, 6, -1));
        Check.noIndex("40 term 8", () -> g.range(0, 8, 0));
        Check.noIndex("40 term -1", () -> g.range(0, -1, 0));
        Check.noIndex("40 variant 2", () -> g.range(2, 6, 0));
        Check.noIndex("40 variant -1", () -> g.range(-1, 6, 0));
        pageWithoutRowsParts();
    }

    private static void ranges(Galleyforge g, int variant, int term, int... due) {
        for (int k = 0; k < due.length; k++) {
            Check.due("40 range " + k, g.range(variant, term, k), due[k]);
        }
        Check.noIndex("40 no more ranges", () -> g.range(variant, term, due.length));
    }

    private static void pageWithoutRowsParts() {
        Galleyforge g = Check.paper(6);
        g.figure(0, 5);
        Check.add(g, Galleyforge.HEADING);
        g.mark(Galleyforge.MENTION, 0);
        Check.marked(g, 0, Galleyforge.TERM, 3, "0");
        Check.add(g, Galleyforge.BREAK);
        Check.add(g, Galleyforge.HEADING);
        Check.marked(g, 2, Galleyforge.TERM, 3, "0");
        ranges(g, 0, 3, 1001, 3003);
    }
}
