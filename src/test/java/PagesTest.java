/** Promises 27 to 36: pages, costs, rounds of texts without references, figures, notes, heads, traces. */
public final class PagesTest {
    public static void main(String[] args) {
        noRows();
        headingsAtTheEnd();
        paragraphs();
        keptTogether();
        tables();
        contentsAndIndex();
        breaks();
        notes();
        notesThatGoOn();
        figuresAtTheBottom();
        figuresAtTheTop();
        figuresAlone();
        figuresBehind();
        kindsOfFigures();
        orderOfFigures();
        heads();
        textAt();
        whereIs();
        variants();
        wrongInputs();
        Check.end("PagesTest");
    }

    private static void pages(String what, Galleyforge g, int cost, int... due) {
        Check.pages(what, g, cost, due);
        Check.due(what + ": rounds", g.rounds(0), 1);
        Check.due(what + ": settled", g.isSettled(0) ? 1 : 0, 1);
    }

    private static void noRows() {
        Galleyforge g = Check.paper(6);
        pages("no blocks", g, 0);
        Check.add(g, Galleyforge.PARAGRAPH);
        Check.add(g, Galleyforge.BREAK);
        Check.add(g, Galleyforge.COLUMNS);
        Check.add(g, Galleyforge.CONTENTS);
        Check.add(g, Galleyforge.INDEX);
        Check.add(g, Galleyforge.TABLE);
        pages("no rows", g, 0);
        Check.add(g, Galleyforge.HEADING);
        // the contents have a row for the heading
        pages("an empty heading", g, 0, 2, 0, 3);
    }

    private static void headingsAtTheEnd() {
        Galleyforge g = Check.paper(6);
        for (int k = 0; k < 4; k++) {
            Check.add(g, Galleyforge.HEADING);
        }
        pages("four headings", g, 10000, 3, 0, 6, 1, 0, 2);
        g.block(2, Galleyforge.BREAK);
        pages("a page break behind a heading", g, 0, 2, 0, 4, 2, 0, 4);
        g = Check.paper(6);
        Check.addLines(g, 5);
        Check.add(g, Galleyforge.HEADING);
        Check.addLines(g, 2);
        // 4 and 5 rows, or 5 and 3
        pages("a heading behind rows", g, 1, 5, 0, 5, 3, 0, 4);
    }

    private static void paragraphs() {
        Galleyforge g = Check.paper(6);
        Check.addLines(g, 6);
        pages("six rows", g, 0, 6, 0, 6);
        g = Check.paper(6);
        Check.addLines(g, 8);
        pages("eight rows", g, 0, 6, 0, 6, 2, 0, 2);
        g = Check.paper(6);
        Check.addLines(g, 7);
        pages("not the last row alone", g, 1, 5, 0, 5, 2, 0, 2);
        g = Check.paper(6);
        Check.addLines(g, 5);
        Check.addLines(g, 5);
        pages("not the first row alone", g, 1, 5, 0, 5, 5, 0, 5);
        g = Check.paper(6);
        Check.addLines(g, 4);
        Check.addLines(g, 6);
        pages("two rows and four", g, 0, 6, 0, 6, 4, 0, 4);
        g = Check.paper(6);
        Check.addLines(g, 5);
        Check.addLines(g, 7);
        pages("three pages cost less than two", g, 2, 5, 0, 5, 5, 0, 5, 2, 0, 2);
        g = Check.paper(40);
        Check.addRow(g, 39);
        Check.addLines(g, 2);
        Check.addRow(g, 39);
        pages("a paragraph of two rows", g, 300, 2, 0, 40, 2, 0, 40);
        g.style(1, Galleyforge.KEEP, 1);
        pages("a paragraph of two rows that is kept", g, 1 + 38 * 38, 1, 0, 39, 2, 0, 2, 1, 0, 39);
    }

    private static void keptTogether() {
        Galleyforge g = Check.paper(6);
        Check.addLines(g, 7);
        g.style(0, Galleyforge.KEEP, 1);
        pages("seven rows that are kept", g, 10000, 6, 0, 6, 1, 0, 1);
        Check.addLines(g, 5);
        g.take(0, 0);
        pages("between two blocks", g, 0, 6, 0, 6, 5, 0, 5);
        g = Check.paper(6);
        Check.addLines(g, 3);
        int place = Check.add(g, Galleyforge.COLUMNS, "333333", "333333", "333333", "333333", "333333", "333333", "333333");
        pages("four rows of columns", g, 9, 3, 0, 3, 4, 0, 4);
        Check.due("lines of columns", g.lines(0, place), 7);
        g.take(place, 0);
        pages("three rows of columns", g, 0, 6, 0, 6);
        g.paper(30, 6);
        Check.words(g, place, "333333", "333333", "333333", "333333", "333333", "333333");
        Check.addLines(g, 1);
        pages("six rows of columns", g, 9, 3, 0, 3, 6, 0, 6, 1, 0, 1);
    }

    private static void tables() {
        Galleyforge g = Check.paper(6);
        int place = Check.addTable(g, 2, 4);
        pages("two rows of 4", g, 104, 1, 0, 4, 1, 0, 4);
        g.style(place, Galleyforge.KEEP, 1);
        pages("two rows of 4 that are kept", g, 10004, 1, 0, 4, 1, 0, 4);
        g = Check.paper(6);
        Check.addTable(g, 1, 7);
        pages("a row that is too high", g, 100, 1, 0, 7);
        Check.addTable(g, 1, 1);
        pages("a row that is too high, and another", g, 100, 1, 0, 7, 1, 0, 1);
        Check.addTable(g, 4, 2);
        pages("tables side by side", g, 100 + 1 + 100, 1, 0, 7, 3, 0, 5, 2, 0, 4);
    }

    private static void contentsAndIndex() {
        Galleyforge g = Check.paper(6);
        Check.addTable(g, 1, 5);
        Check.add(g, Galleyforge.CONTENTS);
        Check.add(g, Galleyforge.HEADING);
        Check.add(g, Galleyforge.HEADING);
        // a row on each side costs nothing in contents
        pages("contents", g, 0, 2, 0, 6, 3, 0, 5);
        g.style(1, Galleyforge.KEEP, 1);
        pages("contents that are kept", g, 1, 1, 0, 5, 4, 0, 6);
        g = Check.paper(6);
        Check.addTable(g, 1, 5);
        Check.add(g, Galleyforge.INDEX);
        Check.add(g, Galleyforge.HEADING);
        for (int term = 0; term < 6; term++) {
            g.mark(Galleyforge.TERM, term / 2);
            Check.words(g, 2, "0");
        }
        pages("an index of three rows", g, 0, 2, 0, 6, 3, 0, 4);
    }

    private static void breaks() {
        Galleyforge g = Check.paper(6);
        Check.add(g, Galleyforge.BREAK);
        Check.addLines(g, 1);
        Check.add(g, Galleyforge.BREAK);
        Check.add(g, Galleyforge.PARAGRAPH);
        Check.add(g, Galleyforge.BREAK);
        Check.addLines(g, 2);
        Check.add(g, Galleyforge.BREAK);
        pages("page breaks", g, 0, 1, 0, 1, 2, 0, 2);
        g.style(2, Galleyforge.VARIANT, 1);
        g.style(4, Galleyforge.VARIANT, 1);
        pages("page breaks that are not there", g, 0, 3, 0, 3);
        Check.due("page breaks of the other variant", g.pages(1), 2);
    }

    private static void notes() {
        Galleyforge g = Check.paper(8);
        Check.addMarked(g, Galleyforge.NOTE, 3, -1, -1, -1);
        pages("three lines", g, 0, 4, 3, 8);
        g = Check.paper(8);
        Check.addMarked(g, Galleyforge.NOTE, 5, -1, -1, -1);
        pages("five lines", g, 0, 2, 5, 8, 2, 0, 2);
        g = Check.paper(8);
        Check.addMarked(g, Galleyforge.NOTE, 2, 3, -1, -1);
        pages("two and three lines", g, 0, 2, 5, 8, 2, 0, 2);
        g = Check.paper(6);
        Check.addMarked(g, Galleyforge.NOTE, 3, 1);
        // two rows would leave 4 for notes, but the first note and 2 take 5
        pages("only the last note may go on", g, 301, 1, 3, 5, 1, 1, 3);
        g = Check.paper(7);
        Check.addMarked(g, Galleyforge.NOTE, 3, 2);
        // two rows leave 5
        pages("the last note goes on", g, 100, 2, 4, 7, 0, 1, 2);
        g = Check.paper(6);
        Check.add(g, Galleyforge.HEADING);
        g.mark(Galleyforge.NOTE, 1);
        Check.words(g, 0, "0");
        g.mark(Galleyforge.NOTE, 2);
        Check.words(g, 0, "0");
        pages("two notes of a row", g, 0, 1, 3, 6);
    }

    private static void notesThatGoOn() {
        Galleyforge g = Check.paper(6);
        Check.add(g, Galleyforge.HEADING);
        for (int k = 0; k < 12; k++) {
            g.mark(Galleyforge.NOTE, 5);
            Check.words(g, 0, "0");
        }
        int[] due = new int[39];
        for (int page = 0; page < 13; page++) {
            due[3 * page] = page == 0 ? 1 : 0;
            due[3 * page + 1] = page == 0 ? 3 : page == 12 ? 2 : 5;
            due[3 * page + 2] = page == 12 ? 3 : 6;
        }
        pages("sixty lines", g, 100, due);
        g = headingWithNote();
        Check.addTable(g, 1, 5);
        pages("no room for notes", g, 10200, 1, 3, 6, 1, 0, 5, 0, 2, 3);
        g = headingWithNote();
        Check.add(g, Galleyforge.BREAK);
        Check.addLines(g, 5);
        // with four rows one of the two lines would be left
        pages("lines that are left", g, 100, 1, 3, 6, 3, 2, 6, 2, 0, 2);
        g = headingWithNote();
        Check.add(g, Galleyforge.BREAK);
        Check.addKept(g, Galleyforge.NOTE, -1, -1, -1, -1, -1);
        // five rows would leave 1, and lines that are left need 2; kept rows are parted for it
        pages("lines that are left, and kept rows", g, 10100, 1, 3, 6, 3, 2, 6, 2, 0, 2);
        g = headingWithNote();
        Check.add(g, Galleyforge.BREAK);
        Check.addMarked(g, Galleyforge.NOTE, 1, -1, -1);
        // lines that are left and 2 need 4: two rows leave 4
        pages("lines that are left ahead of a note", g, 250, 1, 3, 6, 2, 3, 6, 1, 0, 1);
    }

    /** A heading on its page, from which 2 lines of notes are left. */
    private static Galleyforge headingWithNote() {
        Galleyforge g = Check.paper(6);
        Check.add(g, Galleyforge.HEADING);
        g.mark(Galleyforge.NOTE, 5);
        Check.words(g, 0, "0");
        return g;
    }

    private static void figuresAtTheBottom() {
        Galleyforge g = Check.paper(8);
        g.figure(0, 5);
        Check.addMarked(g, Galleyforge.MENTION, 0, -1, -1);
        pages("5 below 3 rows", g, 0, 3, 0, 8);
        Check.figures("5 below 3 rows", g, 11);
        g = Check.paper(8);
        g.figure(0, 4);
        Check.addMarked(g, Galleyforge.MENTION, 0, -1, -1, -1, -1, -1, -1, -1, -1, -1);
        pages("of equal ways the fewer rows", g, 0, 4, 0, 8, 6, 0, 6);
        Check.figures("of equal ways the fewer rows", g, 11);
        g = Check.paper(8);
        g.figure(0, 2);
        Check.addMarked(g, Galleyforge.NOTE, 3, -1);
        g.mark(Galleyforge.MENTION, 0);
        Check.words(g, 0, "0");
        pages("below the notes it has no room", g, 0, 3, 3, 7, 0, 0, 2);
        Check.figures("below the notes it has no room", g, 22);
    }

    private static void figuresAtTheTop() {
        Galleyforge g = Check.paper(6);
        g.figure(0, 3);
        Check.addMarked(g, Galleyforge.MENTION, 0, -1, -1, -1, -1);
        Check.add(g, Galleyforge.BREAK);
        Check.addLines(g, 2);
        pages("3 of half 3", g, 0, 5, 0, 5, 2, 0, 5);
        Check.figures("3 of half 3", g, 20);
        g = Check.paper(7);
        g.figure(0, 2);
        g.figure(1, 2);
        Check.addKept(g, Galleyforge.MENTION, 0, 1, -1, -1, -1, -1);
        Check.add(g, Galleyforge.BREAK);
        Check.addLines(g, 1);
        Check.add(g, Galleyforge.BREAK);
        Check.addLines(g, 1);
        pages("2 and 2 of half 3", g, 0, 6, 0, 6, 1, 0, 3, 1, 0, 3);
        Check.figures("2 and 2 of half 3", g, 20, 30);
    }

    private static void figuresAlone() {
        Galleyforge g = Check.paper(6);
        g.figure(0, 4);
        Check.addKept(g, Galleyforge.MENTION, 0, -1, -1, -1, -1);
        Check.add(g, Galleyforge.BREAK);
        Check.addLines(g, 2);
        pages("4 of half 3", g, 0, 5, 0, 5, 0, 0, 4, 2, 0, 2);
        Check.figures("4 of half 3", g, 22);
        g = headingWithNote();
        g.figure(0, 4);
        g.mark(Galleyforge.MENTION, 0);
        Check.words(g, 0, "0");
        Check.add(g, Galleyforge.BREAK);
        Check.addLines(g, 2);
        pages("no notes beside it", g, 100, 1, 3, 6, 0, 0, 4, 2, 2, 5);
        Check.figures("no notes beside it", g, 22);
        g = Check.paper(7);
        g.figure(0, 4);
        g.figure(1, 2);
        g.figure(0, 40);
        Check.addKept(g, Galleyforge.MENTION, 1, 0, 2, -1, -1, -1);
        Check.add(g, Galleyforge.BREAK);
        Check.addLines(g, 1);
        Check.add(g, Galleyforge.BREAK);
        Check.addLines(g, 1);
        // the first one waits for the top of the next page, the other two then are first ones
        pages("only the first one is alone", g, 0, 6, 0, 6, 1, 0, 3, 0, 0, 4, 0, 0, 40, 1, 0, 1);
        Check.figures("only the first one is alone", g, 32, 20, 42);
    }

    private static void figuresBehind() {
        Galleyforge g = Check.paper(6);
        g.figure(0, 3);
        g.figure(1, 4);
        g.figure(0, 1);
        Check.addKept(g, Galleyforge.MENTION, 0, 1, 2, -1, -1, -1);
        pages("up to the first one that is too high", g, 0, 6, 0, 6, 0, 0, 3, 0, 0, 5);
        Check.figures("up to the first one that is too high", g, 22, 32, 32);
        g = headingWithNote();
        g.figure(0, 40);
        g.figure(0, 6);
        g.mark(Galleyforge.MENTION, 0);
        Check.words(g, 0, "0");
        g.mark(Galleyforge.MENTION, 1);
        Check.words(g, 0, "0");
        pages("one at least, and notes behind all of them", g, 100, 1, 3, 6, 0, 0, 40, 0, 0, 6, 0, 2, 3);
        Check.figures("one at least", g, 22, 32);
    }

    private static void kindsOfFigures() {
        Galleyforge g = Check.paper(8);
        g.figure(0, 5);
        g.figure(0, 1);
        g.figure(1, 1);
        Check.addKept(g, Galleyforge.MENTION, 0, 1, 2, -1);
        pages("kinds at the bottom", g, 0, 4, 0, 5, 0, 0, 6);
        Check.figures("kinds at the bottom", g, 22, 22, 11);
        g = Check.paper(12);
        g.figure(0, 4);
        g.figure(0, 3);
        g.figure(0, 1);
        g.figure(1, 2);
        Check.addKept(g, Galleyforge.MENTION, 0, 1, 2, 3, -1, -1, -1, -1, -1, -1, -1, -1);
        Check.add(g, Galleyforge.BREAK);
        Check.addLines(g, 1);
        pages("kinds at the top", g, 0, 12, 0, 12, 1, 0, 7, 0, 0, 4);
        Check.figures("kinds at the top", g, 20, 32, 32, 20);
        g = Check.paper(6);
        g.figure(0, 3);
        g.figure(0, 3);
        g.figure(0, 1);
        Check.addKept(g, Galleyforge.MENTION, 0, 1, -1, -1, -1, -1);
        Check.add(g, Galleyforge.BREAK);
        Check.addMarked(g, Galleyforge.MENTION, 2);
        // the second one stays waiting, so that the third one may not stand at the bottom
        pages("a figure that stays waiting", g, 0, 6, 0, 6, 1, 0, 4, 0, 0, 4);
        Check.figures("a figure that stays waiting", g, 20, 32, 32);
    }

    private static void orderOfFigures() {
        Galleyforge g = Check.paper(6);
        g.figure(0, 6);
        g.figure(0, 6);
        g.figure(1, 6);
        Check.addMarked(g, Galleyforge.MENTION, 1, 0, 1);
        pages("order by mentions", g, 0, 3, 0, 3, 0, 0, 6, 0, 0, 6);
        Check.figures("order by mentions", g, 32, 22, -1);
        g = Check.paper(6);
        g.figure(0, 6);
        g.figure(0, 6);
        Check.add(g, Galleyforge.HEADING);
        g.mark(Galleyforge.MENTION, 1);
        Check.words(g, 0, "0");
        g.mark(Galleyforge.MENTION, 0);
        Check.words(g, 0, "0");
        Check.figures("order by words", g, 32, 22);
        g = Check.paper(6);
        g.figure(0, 6);
        g.figure(0, 6);
        g.block(0, Galleyforge.COLUMNS);
        Check.words(g, 0, "333333");
        g.mark(Galleyforge.MENTION, 0);
        Check.words(g, 0, "333333");
        g.mark(Galleyforge.MENTION, 1);
        Check.words(g, 0, "333333");
        // the third word is in the first row
        Check.figures("order by rows of columns", g, 32, 22);
        Check.due("a figure that was mentioned is nowhere", g.take(0, 1), 2);
        Check.figures("a figure without a mention", g, -1, 22);
        Check.noIndex("36 figure 2", () -> g2().figureAt(0, 2));
    }

    private static Galleyforge g2() {
        Galleyforge g = new Galleyforge();
        g.figure(0, 6);
        g.figure(0, 6);
        return g;
    }

    private static void heads() {
        Galleyforge g = Check.paper(6);
        Check.addLines(g, 2);
        Check.add(g, Galleyforge.BREAK);
        Check.add(g, Galleyforge.HEADING);
        g.style(2, Galleyforge.LEVEL, 2);
        Check.add(g, Galleyforge.HEADING);
        Check.add(g, Galleyforge.HEADING);
        Check.add(g, Galleyforge.BREAK);
        Check.addMarked(g, Galleyforge.NOTE, 5);
        Check.addLines(g, 3);
        Check.due("33 no head", g.head(0, 1), -1);
        Check.due("33 the first one on the page", g.head(0, 2), 3);
        Check.due("33 the last one ahead", g.head(0, 3), 4);
        g.take(6, 0);
        g.mark(Galleyforge.NOTE, 5);
        g.reference(6, 0, 0);
        g.remove(7);
        g.style(6, Galleyforge.DEPTH, 3);
        g.mark(Galleyforge.NOTE, 5);
        g.reference(6, 1, 0);
        pages("a page of notes", g, 100, 2, 0, 2, 3, 0, 6, 1, 4, 6, 0, 5, 6, 0, 1, 2);
        Check.due("33 a page without rows", g.head(0, 5), 4);
        Check.noIndex("33 page 0", () -> g.head(0, 0));
        Check.noIndex("33 page 6", () -> g.head(0, 6));
        Check.noIndex("33 variant 2", () -> g.head(2, 1));
        g.style(4, Galleyforge.VARIANT, 1);
        Check.due("33 what is not there is no head", g.head(0, 3), 3);
        Check.due("33 in the other variant it is", g.head(1, 3), 4);
    }

    private static void textAt() {
        Galleyforge g = Check.paper(6);
        Check.addLines(g, 1);
        g.style(0, Galleyforge.VARIANT, 1);
        Check.addLines(g, 8);
        Check.addTable(g, 2, 1);
        Check.due("34 first row", g.textAt(0, 1, 0), 1000);
        Check.due("34 sixth row", g.textAt(0, 1, 5), 1005);
        Check.due("34 second page", g.textAt(0, 2, 0), 1006);
        Check.due("34 the table", g.textAt(0, 2, 3), 2001);
        Check.due("34 the other variant", g.textAt(1, 1, 0), 0);
        Check.noIndex("34 row 6", () -> g.textAt(0, 1, 6));
        Check.noIndex("34 row 4", () -> g.textAt(0, 2, 4));
        Check.noIndex("34 row -1", () -> g.textAt(0, 2, -1));
        Check.noIndex("34 page 3", () -> g.textAt(0, 3, 0));
        Check.noIndex("34 page 0", () -> g.textAt(0, 0, 0));
        Check.noIndex("34 variant 2", () -> g.textAt(2, 1, 0));
    }

    private static void whereIs() {
        Galleyforge g = Check.paper(6);
        Check.addLines(g, 8);
        Check.due("35 a word of the first page", g.whereIs(0, 0, 5), 1005);
        Check.due("35 a word of the second page", g.whereIs(0, 0, 7), 2001);
        Check.add(g, Galleyforge.COLUMNS, "333", "333", "333");
        Check.due("35 the first column", g.whereIs(0, 1, 1), 2003);
        Check.due("35 the second column", g.whereIs(0, 1, 2), 2002);
        Check.add(g, Galleyforge.HEADING, "0", "333333", "333333", "333333");
        Check.due("35 a heading", g.whereIs(1, 2, 3), 2004);
        Check.noIndex("35 word 4", () -> g.whereIs(0, 2, 4));
        Check.noIndex("35 word -1", () -> g.whereIs(0, 2, -1));
        Check.noIndex("35 block 3", () -> g.whereIs(0, 3, 0));
        Check.noIndex("35 variant 2", () -> g.whereIs(2, 0, 0));
        g.style(1, Galleyforge.VARIANT, 1);
        Check.due("35 not there", g.whereIs(0, 1, 1), -1);
        Check.due("35 there", g.whereIs(1, 1, 1), 2003);
        Galleyforge broken = Check.paper(6);
        Check.add(broken, Galleyforge.PARAGRAPH, "333333", "0");
        Check.pattern(broken, "3", 0, 1);
        broken.mark(Galleyforge.ONLY, 1);
        Check.words(broken, 0, "0");
        Check.due("35 a word is where it begins", broken.whereIs(0, 0, 0), 1000);
        Check.due("35 the word behind it", broken.whereIs(0, 0, 1), 1001);
        Check.due("35 a word that is not there", broken.whereIs(0, 0, 2), -1);
        // there the first line ends at gap 2, the second one behind the second word: 584 is less than 3100
        Check.due("35 a word of the other variant", broken.whereIs(1, 0, 2), 1002);
    }

    private static void variants() {
        Galleyforge g = Check.paper(6);
        Check.addLines(g, 8);
        g.style(0, Galleyforge.VARIANT, 1);
        Check.addLines(g, 2);
        Check.due("27 variant 0", g.pages(0), 1);
        Check.due("27 variant 1", g.pages(1), 2);
        Check.due("28 variant 1", g.cost(1), 0);
        g.style(1, Galleyforge.KEEP, 1);
        g.paper(30, 9);
        Check.due("28 variant 1", g.cost(1), 1);
        Check.due("29 variant 1", g.costAnew(1), 1);
        Check.due("28 variant 0", g.cost(0), 0);
        Check.due("32 variant 1", g.on(1, 1, 0), 8);
        Check.due("32 variant 0", g.on(0, 1, 0), 2);
    }

    private static void wrongInputs() {
        Galleyforge g = Check.paper(6);
        Check.addLines(g, 1);
        g.figure(0, 1);
        for (int variant : new int[] {-1, 2, Integer.MAX_VALUE, Integer.MIN_VALUE}) {
            Check.noIndex("27", () -> g.pages(variant));
            Check.noIndex("28", () -> g.cost(variant));
            Check.noIndex("29", () -> g.costAnew(variant));
            Check.noIndex("30", () -> g.rounds(variant));
            Check.noIndex("31", () -> g.isSettled(variant) ? 1 : 0);
            Check.noIndex("32", () -> g.on(variant, 1, 0));
            Check.noIndex("36", () -> g.figureAt(variant, 0));
        }
        Check.noIndex("32 page 0", () -> g.on(0, 0, 0));
        Check.noIndex("32 page 2", () -> g.on(0, 2, 0));
        Check.noIndex("32 what -1", () -> g.on(0, 1, -1));
        Check.noIndex("32 what 3", () -> g.on(0, 1, 3));
        Check.noIndex("36 figure -1", () -> g.figureAt(0, -1));
        Check.noIndex("36 figure 1", () -> g.figureAt(0, 1));
    }
}
