/** The boundary cases of the section 'Pages', sentence by sentence. */
public final class PageEdgesTest {
    private static final int NOTE = Galleyforge.NOTE;
    private static final int MENTION = Galleyforge.MENTION;

    public static void main(String[] args) {
        pagesFromOneOn();
        oneRowAtLeast();
        pageBreaks();
        halfOfThePaper();
        allAtTheTopTogether();
        ofItsKindAtTheTop();
        ofItsKindAtTheBottom();
        ofItsKindThatStaysWaiting();
        aFigureThatStandsDoesNotWait();
        roomAtTheBottom();
        orderAtTheBottom();
        fromThePageOfItsMentionOn();
        theFirstMention();
        orderOfFigures();
        withoutAMention();
        aloneOneByOne();
        Check.end("PageEdgesTest");
    }

    /** Adds a page break. */
    static void pageBreak(Galleyforge g) {
        Check.add(g, Galleyforge.BREAK);
    }

    /** Paper of this height, and figures, each told as its kind and its height. */
    static Galleyforge paper(int height, int... figures) {
        Galleyforge g = Check.paper(height);
        for (int k = 0; k < figures.length; k += 2) {
            g.figure(figures[k], figures[k + 1]);
        }
        return g;
    }

    /** "Pages are numbered from 1 on." */
    private static void pagesFromOneOn() {
        Galleyforge g = paper(6);
        Check.due("no pages", g.pages(0), 0);
        Check.noIndex("page 1 of none", () -> g.on(0, 1, 0));
        Check.addRow(g, 6);
        Check.addRow(g, 6);
        Check.pages("two pages", g, 0, 1, 0, 6, 1, 0, 6);
        Check.due("the first row", g.textAt(0, 1, 0), 0);
        Check.due("the second row", g.textAt(0, 2, 0), 1000);
        for (int page : new int[] {0, -1, 3, Integer.MIN_VALUE, Integer.MAX_VALUE}) {
            Check.noIndex("page " + page, () -> g.on(0, page, 0));
            Check.noIndex("head of page " + page, () -> g.head(0, page));
            Check.noIndex("row of page " + page, () -> g.textAt(0, page, 0));
        }
    }

    /** "one or more on each page that has rows": one that is too high, too. */
    private static void oneRowAtLeast() {
        Galleyforge g = paper(6);
        Check.addRow(g, 40);
        Check.pages("a row of 40 on 6", g, 3400, 1, 0, 40);
        Check.addRow(g, 7);
        Check.pages("and one of 7", g, 3500, 1, 0, 40, 1, 0, 7);
        g = paper(6);
        Check.addMarked(g, NOTE, -1);
        Check.addRow(g, 7);
        Check.addMarked(g, NOTE, -1);
        Check.pages("one of 7 between others", g, 25 + 100, 1, 0, 1, 1, 0, 7, 1, 0, 1);
        g = paper(40);
        Check.addRow(g, 40);
        Check.addRow(g, 40);
        Check.pages("two of 40 on 40", g, 0, 1, 0, 40, 1, 0, 40);
    }

    /** "A page ends behind a row, if a page break comes between it and the next row." */
    private static void pageBreaks() {
        Galleyforge g = paper(12);
        for (int k = 0; k < 4; k++) {
            pageBreak(g);
            pageBreak(g);
            if (k < 3) {
                Check.addRow(g, k + 1);
            }
        }
        Check.pages("two ahead of all, between, and behind", g, 0, 1, 0, 1, 1, 0, 2, 1, 0, 3);
        g.style(6, Galleyforge.VARIANT, 1);
        Check.pages("one of two is not there", g, 0, 1, 0, 1, 1, 0, 2, 1, 0, 3);
        g.style(7, Galleyforge.VARIANT, 1);
        Check.pages("both are not there", g, 0, 1, 0, 1, 2, 0, 5);
        Check.due("in the other variant they are", g.pages(1), 3);
        g.style(7, Galleyforge.VARIANT, 0);
        g.block(7, Galleyforge.TABLE);
        Check.pages("blocks without rows between", g, 0, 1, 0, 1, 1, 0, 2, 1, 0, 3);
        g = paper(12);
        int place = Check.addKept(g, NOTE, -1, -1);
        pageBreak(g);
        Check.addMarked(g, NOTE, -1);
        Check.pages("behind a block", g, 0, 2, 0, 2, 1, 0, 1);
        g.remove(1);
        Check.pages("without it", g, 0, 3, 0, 3);
        Check.due("the block stays", g.lines(0, place), 2);
    }

    /** "and the first one is higher than half of the paper's height, rounded down". */
    private static void halfOfThePaper() {
        for (int height : new int[] {6, 7, 8, 9, 39, 40}) {
            int half = height / 2;
            Galleyforge g = waiting(height, 0, half);
            Check.pages("the half of " + height, g, 0, 2, 0, height, 1, 0, 1 + half);
            Check.figures("the half of " + height, g, 20);
            g = waiting(height, 0, half + 1);
            Check.pages("1 more than the half of " + height, g, 0, 2, 0, height, 0, 0, half + 1, 1, 0, 1);
            Check.figures("1 more than the half of " + height, g, 22);
        }
    }

    /** A full page that mentions all figures, and behind page breaks a row for each of them. */
    private static Galleyforge waiting(int height, int... figures) {
        Galleyforge g = paper(height, figures);
        int count = figures.length / 2;
        Check.addRow(g, height - count);
        int place = Check.add(g, Galleyforge.PARAGRAPH);
        g.style(place, Galleyforge.KEEP, 1);
        for (int k = 0; k < count; k++) {
            Check.marked(g, place, MENTION, k, "333333");
        }
        for (int k = 0; k < count; k++) {
            pageBreak(g);
            Check.addMarked(g, NOTE, -1);
        }
        return g;
    }

    /** "if all at the top and it are, together, not higher than that half". */
    private static void allAtTheTopTogether() {
        for (int height = 8; height <= 9; height++) {
            Galleyforge g = waiting(height, 0, 2, 1, 2);
            Check.pages("2 and 2 of 4", g, 0, 3, 0, height, 1, 0, 5, 1, 0, 1);
            Check.figures("2 and 2 of 4", g, 20, 20);
            g = waiting(height, 0, 2, 1, 3);
            Check.pages("2 and 3 of 4", g, 0, 3, 0, height, 1, 0, 3, 1, 0, 4);
            Check.figures("2 and 3 of 4", g, 20, 30);
            g = waiting(height, 0, 4, 1, 1);
            Check.pages("4 and 1 of 4", g, 0, 3, 0, height, 1, 0, 5, 1, 0, 2);
            Check.figures("4 and 1 of 4", g, 20, 30);
            g = waiting(height, 0, 1, 0, 3);
            Check.pages("1 and 3 of one kind", g, 0, 3, 0, height, 1, 0, 5, 1, 0, 1);
            Check.figures("1 and 3 of one kind", g, 20, 20);
        }
    }

    /** "and none of its kind that is ahead of it in order stays waiting". */
    private static void ofItsKindAtTheTop() {
        Galleyforge g = waiting(8, 0, 3, 0, 2, 0, 1, 1, 1);
        // 3 of 4; 2 has no room, so that 1 of its kind waits, and 1 of the other kind does not
        Check.pages("one kind waits", g, 0, 5, 0, 8, 1, 0, 5, 1, 0, 4, 1, 0, 1, 1, 0, 1);
        Check.figures("one kind waits", g, 20, 30, 30, 20);
        g = waiting(12, 0, 4, 0, 3, 1, 3, 0, 1, 1, 1);
        // 4 of 6; 3 of both kinds have no room, so that 1 of both kinds wait
        Check.pages("both kinds wait", g, 0, 6, 0, 12, 1, 0, 5, 1, 0, 7, 1, 0, 3, 1, 0, 1, 1, 0, 1);
        Check.figures("both kinds wait", g, 20, 30, 30, 40, 40);
    }

    /** "and none of its kind that is ahead of it in order waits": of those that are mentioned on the page. */
    private static void ofItsKindAtTheBottom() {
        Galleyforge g = paper(12, 0, 5, 1, 5, 0, 1, 1, 1);
        Check.addRow(g, 4);
        Check.addKept(g, MENTION, 0, 1, 2, 3);
        pageBreak(g);
        Check.addMarked(g, NOTE, -1);
        // 8 are used; 5 have no room, so that 1 of both kinds wait
        Check.pages("both kinds wait", g, 0, 5, 0, 8, 1, 0, 7, 0, 0, 6);
        Check.figures("both kinds wait", g, 20, 32, 20, 32);
        g = paper(12, 0, 5, 1, 1, 0, 1);
        Check.addRow(g, 5);
        Check.addKept(g, MENTION, 0, 1, 2);
        Check.pages("one kind waits", g, 0, 4, 0, 9, 0, 0, 6);
        Check.figures("one kind waits", g, 22, 11, 22);
    }

    /** The same for those that wait from pages ahead, and get no place at the top. */
    private static void ofItsKindThatStaysWaiting() {
        Galleyforge g = paper(8, 0, 3, 0, 2, 1, 2, 0, 1, 1, 1);
        Check.addRow(g, 5);
        Check.addKept(g, MENTION, 0, 1, 2);
        pageBreak(g);
        Check.addKept(g, MENTION, 3, 4);
        // 3 of 4 at the top; 2 of both kinds have no room there, so that 1 of both kinds wait
        Check.pages("both kinds wait", g, 0, 4, 0, 8, 2, 0, 5, 0, 0, 6);
        Check.figures("both kinds wait", g, 20, 32, 32, 32, 32);
        g = paper(8, 0, 3, 0, 2, 1, 1);
        Check.addRow(g, 6);
        Check.addKept(g, MENTION, 0, 1);
        pageBreak(g);
        Check.addMarked(g, MENTION, 2);
        Check.pages("one kind waits", g, 0, 3, 0, 8, 1, 0, 5, 0, 0, 2);
        Check.figures("one kind waits", g, 20, 32, 21);
    }

    private static void aFigureThatStandsDoesNotWait() {
        Galleyforge g = paper(12, 0, 3, 0, 2, 0, 1);
        Check.addRow(g, 11);
        Check.addMarked(g, MENTION, 0);
        pageBreak(g);
        Check.addKept(g, MENTION, 1, 2);
        Check.pages("one at the top, two of its kind at the bottom", g, 0, 2, 0, 12, 2, 0, 3 + 2 + 2 + 1);
        Check.figures("one at the top, two of its kind at the bottom", g, 20, 21, 21);
    }

    /** "if what is used and its height are, together, not more than the paper's height". */
    private static void roomAtTheBottom() {
        Galleyforge g = paper(8, 0, 4);
        Check.addRow(g, 3);
        Check.addMarked(g, MENTION, 0);
        Check.pages("4 of 4", g, 0, 2, 0, 8);
        Check.figures("4 of 4", g, 11);
        g = paper(8, 0, 5);
        Check.addRow(g, 3);
        Check.addMarked(g, MENTION, 0);
        Check.pages("5 of 4", g, 0, 2, 0, 4, 0, 0, 5);
        Check.figures("5 of 4", g, 22);
        for (int figure = 4; figure <= 5; figure++) {
            g = paper(8, 0, figure);
            g.mark(NOTE, 2);
            Check.addMarked(g, MENTION, 0);
            if (figure == 4) {
                Check.pages("4 below a note", g, 0, 1, 2, 8);
            } else {
                Check.pages("5 below a note", g, 0, 1, 2, 4, 0, 0, 5);
            }
            Check.figures(figure + " below a note", g, figure == 4 ? 11 : 22);
        }
        g = paper(6, 0, 3, 1, 1);
        Check.addRow(g, 5);
        Check.addMarked(g, MENTION, 0);
        pageBreak(g);
        Check.marked(g, Check.add(g, Galleyforge.HEADING), MENTION, 1, "0");
        Check.pages("below one at the top", g, 0, 2, 0, 6, 1, 0, 6);
        Check.figures("below one at the top", g, 20, 21);
    }

    /** "Then the figures that are mentioned in its rows are gone through in order"; "then its height is used, too". */
    private static void orderAtTheBottom() {
        Galleyforge g = paper(8, 0, 3, 0, 3);
        Check.addKept(g, MENTION, 0, 1);
        Check.pages("3 and 3 of 6", g, 0, 2, 0, 8);
        Check.figures("3 and 3 of 6", g, 11, 11);
        g = paper(8, 0, 3, 1, 4);
        Check.addKept(g, MENTION, 0, 1);
        Check.pages("3 and 4 of 6", g, 0, 2, 0, 5, 0, 0, 4);
        Check.figures("3 and 4 of 6", g, 11, 22);
        g = paper(8, 0, 3, 1, 4);
        Check.addKept(g, MENTION, 1, 0);
        Check.pages("4 and 3 of 6", g, 0, 2, 0, 6, 0, 0, 3);
        Check.figures("4 and 3 of 6", g, 22, 11);
        g = paper(8, 0, 7, 1, 6);
        Check.addKept(g, MENTION, 0, 1);
        Check.pages("7 waits, 6 of another kind does not", g, 0, 2, 0, 8, 0, 0, 7);
        Check.figures("7 waits, 6 of another kind does not", g, 22, 11);
        g = paper(8, 0, 7, 0, 6);
        Check.addKept(g, MENTION, 0, 1);
        Check.pages("7 waits, and so does 6 of its kind", g, 0, 2, 0, 2, 0, 0, 7, 0, 0, 6);
        Check.figures("7 waits, and so does 6 of its kind", g, 22, 32);
    }

    /** "A figure waits from the page of its mention on, until it stands on a page." */
    private static void fromThePageOfItsMentionOn() {
        Galleyforge g = paper(12, 0, 2);
        Check.addMarked(g, NOTE, -1);
        pageBreak(g);
        Check.addMarked(g, MENTION, 0);
        pageBreak(g);
        Check.addMarked(g, NOTE, -1);
        Check.pages("not ahead of it, not behind it", g, 0, 1, 0, 1, 1, 0, 3, 1, 0, 1);
        Check.figures("not ahead of it", g, 21);
        // the first ones take the top, one by one
        g = waiting(6, 0, 3, 0, 3, 0, 3, 0, 3, 0, 3);
        Check.pages("up to the fifth page behind it", g, 0, 6, 0, 6, 1, 0, 4, 1, 0, 4, 1, 0, 4, 1, 0, 4, 1, 0, 4);
        Check.figures("up to the fifth page behind it", g, 20, 30, 40, 50, 60);
    }

    /** "It is mentioned in the first row in which a word mentions it". */
    private static void theFirstMention() {
        Galleyforge g = paper(12, 0, 2);
        Check.addMarked(g, NOTE, -1);
        pageBreak(g);
        Check.addMarked(g, MENTION, 0);
        pageBreak(g);
        Check.addMarked(g, MENTION, 0);
        Check.figures("the second page", g, 21);
        Check.marked(g, 0, MENTION, 0, "0");
        Check.figures("now the first one", g, 11);
        Check.pages("it stands once", g, 0, 2, 0, 4, 1, 0, 1, 1, 0, 1);
        g.take(0, 1);
        g.take(2, 0);
        Check.figures("now the last one", g, 21);
        Check.pages("it stands on the page of the last row", g, 0, 1, 0, 1, 1, 0, 3);
    }

    /** "figures are in order by these rows, those of one row by the words". */
    private static void orderOfFigures() {
        Galleyforge g = paper(6, 0, 6, 0, 6, 0, 6, 0, 6, 0, 6);
        Check.addKept(g, MENTION, 4, 3, 2, 1, 0);
        Check.figures("by rows", g, 62, 52, 42, 32, 22);
        g = paper(6, 0, 6, 0, 6, 0, 6, 0, 6, 0, 6);
        int heading = Check.add(g, Galleyforge.HEADING);
        for (int figure : new int[] {3, 1, 4, 0, 2, 3, 1}) {
            Check.marked(g, heading, MENTION, figure, "0");
        }
        Check.figures("by words", g, 52, 32, 62, 22, 42);
        g = paper(6, 0, 6, 0, 6);
        heading = Check.add(g, Galleyforge.HEADING);
        for (int figure : new int[] {1, 0, 1}) {
            Check.marked(g, heading, MENTION, figure, "0");
        }
        Check.figures("by the first words", g, 32, 22);
        g = paper(6, 0, 6, 0, 6, 0, 6);
        int columns = Check.add(g, Galleyforge.COLUMNS);
        for (int figure : new int[] {2, 1, 0, -1}) {
            Check.marked(g, columns, MENTION, figure, "321");
        }
        // the first row has the words 0 and 2, the second one the words 1 and 3
        Check.figures("by rows of columns", g, 32, 42, 22);
    }

    /** "Without a mention it is nowhere." */
    private static void withoutAMention() {
        Galleyforge g = paper(6, 0, 1, 1, 6);
        int place = Check.addMarked(g, MENTION, -1, 1);
        Check.figures("one is mentioned", g, -1, 22);
        g.take(place, 1);
        Check.figures("none is mentioned", g, -1, -1);
        g.mark(Galleyforge.ONLY, 1);
        Check.marked(g, place, MENTION, 0, "0");
        Check.figures("not in this variant", g, -1, -1);
        Check.due("in the other variant", g.figureAt(1, 0), 11);
        g.style(place, Galleyforge.VARIANT, 0);
        Check.due("the block is not there", g.figureAt(1, 0), -1);
        g.mark(MENTION, 0);
        Check.figures("a mention that is drafted", g, -1, -1);
    }

    /** "the page has this one alone, without rows and notes; the next page begins with the row i, too". */
    private static void aloneOneByOne() {
        Galleyforge g = waiting(6, 0, 4, 1, 5);
        Check.pages("both are too high", g, 0, 3, 0, 6, 0, 0, 4, 0, 0, 5, 1, 0, 1, 1, 0, 1);
        Check.figures("both are too high", g, 22, 32);
        g = waiting(6, 0, 5, 0, 3);
        Check.pages("the first one is too high", g, 0, 3, 0, 6, 0, 0, 5, 1, 0, 4, 1, 0, 1);
        Check.figures("the first one is too high", g, 22, 30);
        g = waiting(6, 0, 3, 1, 5);
        Check.pages("the second one is too high", g, 0, 3, 0, 6, 1, 0, 4, 0, 0, 5, 1, 0, 1);
        Check.figures("the second one is too high", g, 20, 32);
        g = waiting(6, 0, 40, 0, 40, 1, 40, 1, 40, 0, 40);
        Check.pages("all of them", g, 0, 6, 0, 6, 0, 0, 40, 0, 0, 40, 0, 0, 40, 0, 0, 40, 0, 0, 40,
                1, 0, 1, 1, 0, 1, 1, 0, 1, 1, 0, 1, 1, 0, 1);
        Check.figures("all of them", g, 22, 32, 42, 52, 62);
        Check.due("the next row", g.textAt(0, 7, 0), 3000);
        g = paper(6, 0, 4);
        g.mark(NOTE, 5);
        Check.addMarked(g, MENTION, 0);
        pageBreak(g);
        Check.addRow(g, 4);
        // 4 lines and the rule leave 1 line, which goes on behind the figure
        Check.pages("a line that is left", g, 100, 1, 4, 6, 0, 0, 4, 1, 1, 6);
        Check.figures("a line that is left", g, 22);
    }
}
