/** The boundary cases of the section 'References, and what is asked', sentence by sentence. */
public final class ReferenceEdgesTest {
    private static final int LABEL = Galleyforge.LABEL;
    private static final int TERM = Galleyforge.TERM;

    public static void main(String[] args) {
        theFirstRowWithALabel();
        noWordHasIt();
        nineOrTenPages();
        eachLabelByItself();
        oneRound();
        twoRounds();
        backToTheSecondRound();
        fromTheRoundAheadOn();
        whatTheLastRoundMade();
        headsOfPages();
        theFirstBlockAsHead();
        headsOfPagesWithoutRows();
        headingsInContents();
        termsByKeys();
        rangesOfPages();
        rangesOverManyPages();
        termsOfRows();
        the512thCall();
        Check.end("ReferenceEdgesTest");
    }

    private static Galleyforge paper(int height) {
        return Check.paper(height);
    }

    /** Adds as many pages, on paper of a height up to 11: rows of 6. */
    private static void addPages(Galleyforge g, int pages) {
        for (int left = pages; left > 0; left -= 4) {
            Check.addTable(g, left < 4 ? left : 4, 6);
        }
    }

    private static void heading(Galleyforge g, int what, int value) {
        Check.marked(g, Check.add(g, Galleyforge.HEADING), what, value, "0");
    }

    /** "A label is on the page of the first row in which a word is that has it." */
    private static void theFirstRowWithALabel() {
        Galleyforge g = paper(6);
        addPages(g, 1);
        heading(g, LABEL, 3);
        Check.add(g, Galleyforge.BREAK);
        heading(g, LABEL, 3);
        Check.add(g, Galleyforge.BREAK);
        heading(g, LABEL, 5);
        Check.due("the second page", g.labelPage(0, 3), 2);
        Check.due("the fourth page", g.labelPage(0, 5), 4);
        g.take(1, 0);
        Check.due("then the third one", g.labelPage(0, 3), 3);
        g.take(3, 0);
        Check.due("then none", g.labelPage(0, 3), -1);
        g.mark(Galleyforge.ONLY, 1);
        Check.marked(g, 1, LABEL, 3, "0");
        Check.due("none in this variant", g.labelPage(0, 3), -1);
        Check.due("the second page in the other one", g.labelPage(1, 3), 2);
        Check.due("the reference to a label does not have it", g.reference(1, 0, 2), 2);
        Check.due("no word has the label 2", g.labelPage(0, 2), -1);
    }

    /** "The digits of a label are those of the number of its page; 1, if no word has it." */
    private static void noWordHasIt() {
        Galleyforge g = paper(6);
        Check.add(g, Galleyforge.PARAGRAPH, "3333", "r0");
        Check.due("one line of 24, 3 and 3", g.lines(0, 0), 1);
        addPages(g, 9);
        Check.due("one line still", g.lines(0, 0), 1);
        Check.due("nowhere", g.labelPage(0, 0), -1);
        Check.due("one round", g.rounds(0), 1);
    }

    /** The same on each side of the pages 9 and 10; ReferencesTest has those of the pages 99 and 100. */
    private static void nineOrTenPages() {
        for (int ahead = 7; ahead <= 10; ahead++) {
            Galleyforge g = paper(6);
            Check.add(g, Galleyforge.PARAGRAPH, "3333", "r0");
            Check.add(g, Galleyforge.BREAK);
            addPages(g, ahead);
            heading(g, LABEL, 0);
            int page = ahead + 2;
            Check.due("page " + page, g.labelPage(0, 0), page);
            Check.due("lines for page " + page, g.lines(0, 0), page < 10 ? 1 : 2);
            Check.due("rounds for page " + page, g.rounds(0), page < 10 ? 1 : 2);
            Check.due("settled", g.isSettled(0) ? 1 : 0, 1);
            Check.due("demerits", g.demerits(0, 0), page < 10 ? 100 : 6410L * 6410 + 3000 + 100);
            Check.due("demerits by all", g.demeritsByAll(0, 0), g.demerits(0, 0));
        }
    }

    private static void eachLabelByItself() {
        for (int label = 0; label <= 5; label++) {
            Galleyforge g = paper(6);
            for (int k = 0; k <= 5; k++) {
                Check.add(g, Galleyforge.PARAGRAPH, "3333", "r" + k);
            }
            // 21, a space and 6 are 30
            int exact = Check.add(g, Galleyforge.PARAGRAPH, "3331", "r" + label);
            addPages(g, 9);
            heading(g, LABEL, label);
            for (int k = 0; k <= 5; k++) {
                Check.due("label " + label + ", reference " + k, g.lines(1, k), k == label ? 2 : 1);
            }
            Check.due("label " + label + " has no third digit", g.lines(1, exact), 1);
            Check.due("rounds", g.rounds(1), 2);
        }
    }

    /** Promise 30: "1 for a text without rows". */
    private static void oneRound() {
        Galleyforge g = paper(6);
        Check.due("no blocks", g.rounds(0), 1);
        Check.due("settled", g.isSettled(1) ? 1 : 0, 1);
        Check.add(g, Galleyforge.PARAGRAPH);
        Check.add(g, Galleyforge.INDEX);
        Check.due("no rows", g.rounds(1), 1);
        Check.due("settled without rows", g.isSettled(0) ? 1 : 0, 1);
        Check.due("no costs", g.cost(0) + g.costAnew(1), 0);
        heading(g, LABEL, 0);
        Check.due("a label on the first page", g.rounds(0), 1);
        addPages(g, 9);
        Check.due("it stays there", g.rounds(0), 1);
    }

    /** "and its pages give each of them its digits anew, whether some word refers to it or not". */
    private static void twoRounds() {
        Galleyforge g = paper(6);
        addPages(g, 9);
        heading(g, LABEL, 4);
        Check.due("nothing refers to it", g.rounds(0), 2);
        Check.due("settled", g.isSettled(0) ? 1 : 0, 1);
        g.style(0, Galleyforge.VARIANT, 1);
        Check.due("four pages less", g.rounds(0), 1);
        Check.due("not in the other variant", g.rounds(1), 2);
    }

    /**
     * The paragraph has a label in its third row, on page 10, and with two digits on page 9, since its last line is
     * broken then; its end, with another label, is on page 10 always. So the third round gives the digits of the second.
     */
    private static void backToTheSecondRound() {
        for (int label = 0; label <= 5; label++) {
            int other = (label + 2) % 6;
            Galleyforge g = paper(7);
            // 21, a space and 6 are 30
            Check.add(g, Galleyforge.PARAGRAPH, "3331", "r" + label);
            Check.add(g, Galleyforge.PARAGRAPH, "3331", "r" + other);
            Check.add(g, Galleyforge.BREAK);
            addPages(g, 7);
            int place = Check.add(g, Galleyforge.PARAGRAPH, "r" + label, "333333");
            Check.marked(g, place, LABEL, label, "333333");
            Check.due("one round without the other label", g.rounds(0), 1);
            Check.marked(g, place, Galleyforge.NOTE, 3, "r" + label);
            Check.marked(g, place, LABEL, other, "3333");
            Check.due("rounds", g.rounds(0), 4);
            Check.due("not settled", g.isSettled(0) ? 1 : 0, 0);
            Check.due("two digits have two lines", g.lines(0, place), 5);
            Check.due("label " + label, g.labelPage(0, label), 9);
            Check.due("label " + other, g.labelPage(0, other), 10);
            Check.due("rows of page 9", g.on(0, 9, 0), 3);
            Check.due("pages", g.pages(0), 10);
            Check.due("no third digit", g.lines(0, 0) + g.lines(0, 1), 2);
        }
    }

    /**
     * "with the most digits for each label of those with which that round ahead and all rounds behind that, up to this
     * one, were made": the rounds give to the labels 1, 2 and 3 the digits 1 2 2, 2 1 2, 1 1 2 and again 2 1 2, so that
     * the label 2 has one digit in the last round, although it had two in the second one.
     */
    private static void fromTheRoundAheadOn() {
        Galleyforge g = paper(7);
        addPages(g, 8);
        int columns = Check.add(g, Galleyforge.COLUMNS, "r1");
        Check.marked(g, columns, Galleyforge.NOTE, 5, "3");
        Check.marked(g, columns, Galleyforge.NOTE, 3, "33");
        Check.marked(g, columns, LABEL, 1, "33");
        Check.marked(g, columns, LABEL, 2, "3");
        Check.marked(g, columns, LABEL, 3, "r3");
        int place = Check.add(g, Galleyforge.PARAGRAPH, "333", "r3", "r2", "3333");
        Check.due("rounds", g.rounds(0), 5);
        Check.due("not settled", g.isSettled(0) ? 1 : 0, 0);
        Check.due("lines of columns with 2 and 2 digits", g.lines(0, columns), 6);
        // 18, 6 and a space; 3, 24 and a space
        Check.due("lines with 2 and 1 digits", g.lines(0, place), 2);
        Check.due("label 1", g.labelPage(0, 1), 9);
        Check.due("label 2", g.labelPage(0, 2), 9);
        Check.due("label 3", g.labelPage(0, 3), 10);
        Check.due("asked anew", g.costAnew(0), g.cost(0));
        Check.due("rounds anew", g.rounds(0), 5);
    }

    /** "What is asked is so by the last round." */
    private static void whatTheLastRoundMade() {
        Galleyforge g = paper(6);
        int place = Check.add(g, Galleyforge.PARAGRAPH, "3333", "r0", "33");
        addPages(g, 9);
        heading(g, LABEL, 0);
        // 24 alone; 6, 12 and a space
        Check.lines("with two digits", g, 6410L * 6410 + 3000 + 100, 0, 3, 20, 1);
        Check.due("the reference is in the second row", g.whereIs(0, place, 1), 1001);
        Check.due("rows of the first page", g.on(0, 1, 0), 2);
        Check.due("traced back", g.textAt(0, 1, 1), 1);
        g.take(0, 0);
        // 6, 12 and a space
        Check.due("less text", g.lines(0, 0), 1);
        g.remove(g.blocks() - 1);
        Check.due("no label, no round", g.rounds(0), 1);
    }

    private static int addHeading(Galleyforge g, int level) {
        int place = Check.add(g, Galleyforge.HEADING);
        g.style(place, Galleyforge.LEVEL, level);
        return place;
    }

    /** "the first heading of the level 1 that has its row on it, and otherwise the last one on the pages ahead". */
    private static void headsOfPages() {
        Galleyforge g = paper(6);
        addPages(g, 1);
        addHeading(g, 2);
        Check.addLines(g, 1);
        int third = addHeading(g, 1);
        Check.add(g, Galleyforge.BREAK);
        addPages(g, 1);
        int first = addHeading(g, 1);
        addHeading(g, 2);
        int last = addHeading(g, 1);
        Check.add(g, Galleyforge.BREAK);
        addHeading(g, 2);
        Check.add(g, Galleyforge.BREAK);
        Check.addLines(g, 1);
        Check.due("none on the first page", g.head(0, 1), -1);
        Check.due("in the last row of the page", g.head(0, 2), third);
        Check.due("none on the page", g.head(0, 3), third);
        Check.due("the first one of two", g.head(0, 4), first);
        Check.due("the last one of two ahead, none of the level 2", g.head(0, 5), last);
        Check.due("the same on the next page", g.head(0, 6), last);
        g.style(last, Galleyforge.LEVEL, 2);
        Check.due("the last one is of the level 2", g.head(0, 5), first);
        g.style(first, Galleyforge.VARIANT, 1);
        Check.due("the other one is not there", g.head(0, 5), third);
        Check.due("it is in the other variant", g.head(1, 5), first);
        g.style(third, Galleyforge.LEVEL, 2);
        Check.due("none is left", g.head(0, 6), -1);
        Check.noIndex("page 0", () -> g.head(0, 0));
        Check.noIndex("page 7", () -> g.head(0, 7));
    }

    private static void theFirstBlockAsHead() {
        Galleyforge g = paper(6);
        Check.add(g, Galleyforge.HEADING);
        Check.due("on its page", g.head(0, 1), 0);
        addPages(g, 2);
        Check.due("on pages behind", g.head(0, 3), 0);
    }

    private static void headsOfPagesWithoutRows() {
        Galleyforge g = paper(6);
        g.figure(0, 6);
        g.figure(0, 6);
        g.figure(1, 6);
        Check.add(g, Galleyforge.PARAGRAPH);
        Check.marked(g, 0, Galleyforge.MENTION, 0, "333333");
        Check.add(g, Galleyforge.BREAK);
        int heading = Check.add(g, Galleyforge.HEADING);
        g.mark(Galleyforge.NOTE, 5);
        Check.marked(g, heading, Galleyforge.MENTION, 1, "0");
        Check.add(g, Galleyforge.BREAK);
        int last = Check.add(g, Galleyforge.HEADING);
        g.mark(Galleyforge.NOTE, 5);
        Check.marked(g, last, Galleyforge.MENTION, 2, "0");
        Check.pages("pages with and without rows", g, 200, 1, 0, 1, 0, 0, 6, 1, 3, 6, 0, 0, 6, 1, 3, 6, 0, 0, 6, 0, 4, 5);
        int[] due = {-1, -1, heading, heading, last, last, last};
        for (int page = 1; page <= due.length; page++) {
            Check.due("head of page " + page, g.head(0, page), due[page - 1]);
        }
    }

    /** Promise 38: "of all headings of the text". */
    private static void headingsInContents() {
        Galleyforge g = paper(6);
        Check.noIndex("none", () -> g.contentsAt(0, 0));
        for (int k = 0; k < 16; k++) {
            Check.add(g, Galleyforge.HEADING);
            g.style(k, Galleyforge.LEVEL, 1 + k % 2);
            int next = k + 1;
            Check.due("the last one", g.contentsAt(0, k) / 1000, k);
            Check.noIndex("no more", () -> g.contentsAt(0, next));
        }
        // three of them on a page
        for (int k = 0; k < 16; k++) {
            Check.due("heading " + k, g.contentsAt(1, k), 1000 * k + k / 3 + 1);
        }
        g.style(0, Galleyforge.VARIANT, 1);
        Check.due("the first one is not there", g.contentsAt(0, 0), 1001);
        Check.due("fifteen", g.contentsAt(0, 14), 15005);
        Check.noIndex("not sixteen", () -> g.contentsAt(0, 15));
        Check.due("sixteen in the other variant", g.contentsAt(1, 15), 15006);
    }

    /** "The index tells terms by rising keys, those with the same key by rising numbers". */
    private static void termsByKeys() {
        Galleyforge g = paper(6);
        Check.noIndex("no terms", () -> g.indexAt(0, 0));
        Check.add(g, Galleyforge.HEADING);
        for (int term : new int[] {6, 0, 3, 7}) {
            Check.marked(g, 0, TERM, term, "0");
        }
        terms("all keys are 0", g, 0, 3, 6, 7);
        g.key(7, 1);
        g.key(0, 2);
        g.key(3, 1);
        terms("0, 1, 1 and 2", g, 6, 3, 7, 0);
        g.key(6, 999);
        g.key(7, 998);
        g.key(3, 999);
        terms("2, 998, 999 and 999", g, 0, 7, 3, 6);
        g.key(1, 1);
        g.key(2, 998);
        terms("keys of terms that no word has", g, 0, 7, 3, 6);
        g.key(0, 999);
        g.key(7, 999);
        terms("all keys are 999", g, 0, 3, 6, 7);
        g.take(0, 3);
        terms("one less", g, 0, 3, 6);
        g.mark(TERM, 5);
        terms("one that is drafted", g, 0, 3, 6);
        Check.words(g, 0, "0");
        terms("one that is put in", g, 5, 0, 3, 6);
        for (int term = 0; term <= 7; term++) {
            g.key(term, 7 - term);
            Check.marked(g, 0, TERM, term, "0");
        }
        terms("all of them, the other way round", g, 7, 6, 5, 4, 3, 2, 1, 0);
    }

    private static void terms(String what, Galleyforge g, int... due) {
        for (int k = 0; k < due.length; k++) {
            Check.due(what + ": " + k, g.indexAt(0, k), due[k]);
        }
        Check.noIndex(what + ": no more", () -> g.indexAt(0, due.length));
    }

    private static void ranges(String what, Galleyforge g, int term, int... due) {
        for (int k = 0; k < due.length; k++) {
            Check.due(what + ": range " + k, g.range(0, term, k), due[k]);
        }
        Check.noIndex(what + ": no more ranges", () -> g.range(0, term, due.length));
        Check.noIndex(what + ": range -1", () -> g.range(0, term, -1));
    }

    /** "pages that follow one another are one range". */
    private static void rangesOfPages() {
        Galleyforge g = paper(6);
        for (int k = 0; k < 8; k++) {
            Check.add(g, Galleyforge.HEADING);
            Check.add(g, Galleyforge.BREAK);
        }
        ranges("none", g, 0);
        Check.marked(g, 4, TERM, 0, "0");
        ranges("page 3", g, 0, 3003);
        Check.marked(g, 4, TERM, 0, "0");
        ranges("page 3 twice", g, 0, 3003);
        Check.marked(g, 8, TERM, 0, "0");
        ranges("3 and 5", g, 0, 3003, 5005);
        Check.marked(g, 6, TERM, 0, "0");
        ranges("3, 4 and 5", g, 0, 3005);
        Check.marked(g, 0, TERM, 0, "0");
        Check.marked(g, 14, TERM, 0, "0");
        ranges("the first and the last page", g, 0, 1001, 3005, 8008);
        Check.marked(g, 2, TERM, 0, "0");
        Check.marked(g, 12, TERM, 0, "0");
        ranges("2 and 7", g, 0, 1005, 7008);
        Check.marked(g, 10, TERM, 0, "0");
        ranges("all of them", g, 0, 1008);
        ranges("another term", g, 7);
        Check.noIndex("term 8", () -> g.range(0, 8, 0));
        Check.noIndex("term -1", () -> g.range(0, -1, 0));
        Check.due("the other variant", g.range(1, 0, 0), 1008);
        for (int place = 14; place >= 0; place -= 2) {
            int last = place / 2 + 1;
            Check.due("up to page " + last, g.range(0, 0, 0), 1000 + last);
            g.remove(place);
        }
        ranges("none again", g, 0);
    }

    /** Pages of two digits, and a page without rows between two others. */
    private static void rangesOverManyPages() {
        Galleyforge g = paper(6);
        addPages(g, 8);
        g.figure(0, 5);
        for (int k = 0; k < 4; k++) {
            if (k == 2) {
                g.mark(Galleyforge.MENTION, 0);
            }
            heading(g, TERM, 2);
            Check.add(g, Galleyforge.BREAK);
        }
        // the figure is alone behind page 11
        ranges("9 to 11, and 13", g, 2, 9011, 13013);
        Check.figures("the figure", g, 122);
    }

    /** "the pages of a term are those of rows in which words are that have it". */
    private static void termsOfRows() {
        Galleyforge g = paper(6);
        Check.add(g, Galleyforge.INDEX);
        Check.add(g, Galleyforge.CONTENTS);
        int place = Check.add(g, Galleyforge.PARAGRAPH);
        Check.marked(g, place, TERM, 1, "333333");
        Check.pattern(g, "333", 3, 1);
        for (int k = 0; k < 4; k++) {
            Check.words(g, place, "33333");
        }
        Check.marked(g, place, TERM, 4, "33333");
        // two terms, no heading; two lines of the first word, and five others
        Check.due("two pages", g.pages(0), 2);
        ranges("a word that is broken", g, 1, 1001);
        ranges("the last word", g, 4, 2002);
        Check.due("its row", g.whereIs(0, place, 5) / 1000, 2);
        ranges("the index itself has no words", g, 0);
        Galleyforge h = paper(6);
        for (int k = 0; k < 2; k++) {
            Check.add(h, Galleyforge.HEADING, "0", "0", "0", "0", "0", "0", "0", "0", "0", "0", "0");
            Check.marked(h, k, TERM, k, "0");
        }
        ranges("the twelfth word of a block", h, 0, 1001);
        ranges("the twelfth word of the next block", h, 1, 1001);
        h.block(1, Galleyforge.BREAK);
        ranges("on the next page", h, 1, 2002);
    }

    /** "An object is used for at most 512 calls": the last one of them is answered as any other one. */
    private static void the512thCall() {
        Galleyforge g = new Galleyforge();
        int calls = 0;
        for (int place = 0; place < 15; place++) {
            g.block(place, Galleyforge.PARAGRAPH);
            calls++;
            for (int at = 0; at < 11; at++) {
                g.spell(3);
                g.spell(at % 4);
                g.word(place, at);
                calls += 3;
            }
        }
        // 15 blocks take 1 and 33 calls each
        for (; calls < 511; calls++) {
            g.mark(Galleyforge.NOTE, -1);
        }
        Check.due("the call 512", g.words(14), 11);
        Check.due("calls", calls, 511);
    }
}
