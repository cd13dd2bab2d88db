/** Promises 22 to 26: lines, where they end, their classes, their demerits. Letters are 2, 3, 4 and 6 wide. */
public final class LinesTest {
    private static final int W = 30;

    public static void main(String[] args) {
        noLines();
        classes();
        tooWideWords();
        hyphens();
        gapsInARow();
        fewestLines();
        mostPlaces();
        differingClasses();
        indents();
        sides();
        columns();
        variants();
        references();
        byAllWays();
        wrongInputs();
        Check.end("LinesTest");
    }

    private static Galleyforge paragraph(String... words) {
        Galleyforge g = new Galleyforge();
        g.paper(W, 12);
        Check.add(g, Galleyforge.PARAGRAPH, words);
        return g;
    }

    private static void lines(String what, Galleyforge g, long demerits, int... endsAndClasses) {
        Check.lines(what, g, demerits, endsAndClasses);
        Check.due(what + ": demerits by all ways", g.demeritsByAll(0, 0), demerits);
    }

    private static void noLines() {
        Galleyforge g = new Galleyforge();
        for (int kind = 0; kind <= 6; kind++) {
            g.block(0, kind);
            Check.due("22 empty, kind " + kind, g.lines(0, 0), 0);
            Check.due("25 empty, kind " + kind, g.demerits(0, 0), 0);
            Check.due("26 empty, kind " + kind, g.demeritsByAll(1, 0), 0);
            Check.noIndex("23 empty, kind " + kind, () -> g.lineEnd(0, 0, 0));
            Check.noIndex("24 empty, kind " + kind, () -> g.tightness(0, 0, 0));
        }
        Check.add(g, Galleyforge.HEADING, "0123", "0123");
        Check.due("22 a heading has no lines", g.lines(0, 7), 0);
        Check.due("25 a heading has no demerits", g.demerits(0, 7), 0);
        Check.due("26 a heading has no demerits", g.demeritsByAll(0, 7), 0);
        Check.due("19 the others have no number", g.number(0, 0), 0);
    }

    private static void classes() {
        lines("the last line", paragraph("0"), 100, 0, 1);
        lines("the last line is full", paragraph("33333"), 100, 0, 1);
        // 12 + 3 + 15
        lines("nothing lacks", paragraph("33", "331", "333333"), 100 + sq(6410), 10, 1, 20, 0);
        // 12 + 3 + 14 of 30 and one space: 50
        lines("1 lacks of 2", paragraph("33", "330", "333333"), sq(22) + sq(6410) + 3000, 10, 2, 20, 0);
        // 10 + 3 + 9 + 3 + 4 of 30 and two spaces: 25
        lines("1 lacks of 4", paragraph("32", "31", "2", "333333"), sq(11) + sq(6410), 20, 1, 30, 0);
        // 12 + 3 + 13 of 30: 100
        lines("2 lack of 2", paragraph("33", "321", "333333"), sq(110) + sq(6410) + 3000, 10, 2, 20, 0);
        // 12 + 3 + 12 of 30: 150
        lines("3 lack of 2", paragraph("33", "33", "33"), sq(347) + 3000 + 100, 10, 3, 20, 1);
        lines("400 at most", paragraph("0", "0", "333333"), 2 * sq(6410) + 3000, 10, 3, 20, 0);
        // 10 + 3 + 9 + 3 + 6 is 1 more than 30
        lines("1 too wide of 2", paragraph("32", "31", "3"), sq(22), 20, 0);
        // 22 and 9 is 1 more than 30
        lines("1 too wide of 3", paragraph("3", "3", "3", "2"), sq(13), 30, 1);
        lines("4 too wide of 3", paragraph("3", "3", "3", "12"), sq(347) + 3000 + 100, 20, 3, 30, 1);
        // 23 and 9 is 2 more than 30
        lines("2 too wide of 3", paragraph("3", "3", "3", "01"), sq(38), 30, 0);
        lines("3 too wide of 3", paragraph("3", "3", "3", "3"), sq(110), 30, 0);
    }

    private static long sq(long n) {
        return n * n;
    }

    private static void tooWideWords() {
        lines("too wide, the last one", paragraph("333333"), sq(6410), 0, 0);
        lines("too wide, each in a line", paragraph("333333", "333333", "0"), 2 * sq(6410) + 100, 0, 0, 10, 0, 20, 1);
        lines("too narrow", paragraph("3333", "333333"), 2 * sq(6410) + 3000, 0, 3, 10, 0);
    }

    private static void hyphens() {
        Galleyforge g = paragraph("333333", "0");
        Check.pattern(g, "3", 0, 1);
        // all ends of the first line, at 2, 3 and 4, are as good: it is the least one
        lines("a hyphen", g, sq(6460) + 3000 + 100, 2, 3, 10, 1);
        g = paragraph("33332", "333333");
        Check.pattern(g, "33", 2, 1);
        // 28 + 3 + 12 + 2
        g.paper(45, 12);
        lines("a hyphen that fits", g, sq(60) + 100, 12, 1, 10, 1);
        g.paper(46, 12);
        lines("a hyphen that lacks 1", g, sq(72) + 100, 12, 2, 10, 1);
    }

    /** On a width of 18, the six letters of 6 are broken twice. */
    private static void gapsInARow() {
        Galleyforge g = paragraph("333333");
        Check.pattern(g, "3", 0, 1);
        g.style(0, Galleyforge.INDENT, 2);
        lines("two hyphens in a row", g, 2 * sq(6460) + 2000 + 3000 + 100, 2, 3, 3, 3, 0, 1);
    }

    /** On a width of 28, three lines have the demerits 225 + 100 + 100, two of them 256 + 169. */
    private static void fewestLines() {
        Galleyforge g = paragraph("0", "1", "0", "1", "1", "0", "3", "3", "2", "2");
        g.paper(34, 12);
        g.style(0, Galleyforge.INDENT, 1);
        lines("the fewest lines", g, 256 + 169, 50, 1, 90, 1);
    }

    /** Twelve words of six letters, each broken at 2 and 3, or at 2 and 4: of equal ways the lesser ends. */
    private static void mostPlaces() {
        Galleyforge g = new Galleyforge();
        g.paper(30, 12);
        g.block(0, Galleyforge.PARAGRAPH);
        g.style(0, Galleyforge.INDENT, 2);
        for (int k = 0; k < 12; k++) {
            Check.words(g, 0, "333333");
        }
        Check.due("22 without patterns", g.lines(0, 0), 12);
        Check.pattern(g, "3", 0, 1);
        Check.due("22 with a pattern", g.lines(0, 0) > 24 ? 1 : 0, 1);
        Check.due("23 the last line", g.lineEnd(0, 0, g.lines(0, 0) - 1), 110);
        Check.due("23 the first line", g.lineEnd(0, 0, 0), 2);
        Check.due("26 too many places", g.demeritsByAll(0, 0), -1);
        Check.words(g, Check.add(g, Galleyforge.PARAGRAPH), "0");
        Check.due("22 the next block", g.lines(0, 1), 1);
    }

    private static void differingClasses() {
        // class 2 behind class 0 and ahead of class 1
        lines("0, 2, 1", paragraph("333333", "33", "321", "33333"), sq(6410) + sq(110) + 3000 + 100, 0, 0, 20, 2, 30, 1);
        lines("2, 3", paragraph("33", "321", "33", "33", "3"), sq(110) + sq(347) + 3000 + 100, 10, 2, 30, 3, 40, 1);
    }

    private static void indents() {
        Galleyforge g = paragraph("333", "333");
        lines("indent 0", g, sq(6410) + 3000 + 100, 0, 3, 10, 1);
        g.style(0, Galleyforge.INDENT, 1);
        lines("indent 1", g, sq(6410) + 3000 + 100, 0, 3, 10, 1);
        g.style(0, Galleyforge.INDENT, 2);
        lines("indent 2", g, 200, 0, 1, 10, 1);
        g.paper(42, 12);
        lines("indent 2, wider", g, sq(6410) + 3000 + 100, 0, 3, 10, 1);
        g.paper(51, 12);
        lines("indent 2, both in a line", g, 100, 10, 1);
    }

    private static void sides() {
        Galleyforge g = paragraph("333", "33333");
        g.style(0, Galleyforge.SIDE, 12);
        lines("side 12, depth 0", g, sq(6410) + 3000 + 100, 0, 3, 10, 1);
        g.style(0, Galleyforge.DEPTH, 1);
        lines("side 12, depth 1", g, 200, 0, 1, 10, 1);
        g.style(0, Galleyforge.DEPTH, 2);
        lines("side 12, depth 2", g, 100 + sq(6410), 0, 1, 10, 0);
        g = paragraph("32", "32", "32", "33333");
        g.style(0, Galleyforge.SIDE, 30);
        g.style(0, Galleyforge.DEPTH, 3);
        lines("at least 10, depth 3", g, 400, 0, 1, 10, 1, 20, 1, 30, 1);
        g.style(0, Galleyforge.INDENT, 2);
        lines("at least 10, indent 2", g, 300 + sq(6410), 0, 1, 10, 1, 20, 1, 30, 0);
    }

    private static void columns() {
        Galleyforge g = new Galleyforge();
        Check.add(g, Galleyforge.COLUMNS, "321", "321");
        g.style(0, Galleyforge.INDENT, 2);
        g.style(0, Galleyforge.SIDE, 3);
        g.style(0, Galleyforge.DEPTH, 3);
        g.paper(30, 12);
        lines("columns of 13", g, 200, 0, 1, 10, 1);
        g.paper(31, 12);
        lines("columns of 13 again", g, 200, 0, 1, 10, 1);
        g.paper(32, 12);
        lines("columns of 14", g, sq(6410) + 3000 + 100, 0, 3, 10, 1);
    }

    private static void variants() {
        Galleyforge g = paragraph("33333", "33333", "33333");
        g.take(0, 0);
        g.mark(Galleyforge.ONLY, 1);
        Check.spell(g, "33333");
        g.word(0, 0);
        Check.due("22 variant 0", g.lines(0, 0), 2);
        Check.due("22 variant 1", g.lines(1, 0), 3);
        Check.due("23 variant 0", g.lineEnd(0, 0, 0), 10);
        Check.due("23 variant 1", g.lineEnd(1, 0, 0), 0);
        Check.due("25 variant 0", g.demerits(0, 0), 200);
        Check.due("25 variant 1", g.demerits(1, 0), 300);
        Check.due("26 variant 1", g.demeritsByAll(1, 0), 300);
        g.style(0, Galleyforge.VARIANT, 0);
        Check.due("22 not there", g.lines(1, 0), 0);
        Check.due("25 not there", g.demerits(1, 0), 0);
        Check.due("26 not there", g.demeritsByAll(1, 0), 0);
        Check.noIndex("23 not there", () -> g.lineEnd(1, 0, 0));
        Check.noIndex("24 not there", () -> g.tightness(1, 0, 0));
        Check.due("22 there", g.lines(0, 0), 2);
    }

    private static void references() {
        // 24 + 3 + 3 of 30
        lines("a reference of one digit", paragraph("3333", "r0", "33333"), 200, 10, 1, 20, 1);
    }

    private static void byAllWays() {
        Galleyforge g = paragraph("33", "33", "33", "33", "33", "33", "33", "33", "33", "33", "33", "33");
        Check.due("26 twelve places", g.demeritsByAll(0, 0), 5 * sq(347) + 3000 + 100);
        Check.due("25 twelve places", g.demerits(0, 0), 5 * sq(347) + 3000 + 100);
        g.take(0, 0);
        Check.spell(g, "3333");
        g.word(0, 11);
        Check.due("26 twelve places again", g.demeritsByAll(0, 0), g.demerits(0, 0));
        Check.pattern(g, "333", 2, 1);
        Check.due("26 thirteen places", g.demeritsByAll(0, 0), -1);
        Check.due("25 thirteen places", g.demerits(0, 0) > 0 ? 1 : 0, 1);
    }

    private static void wrongInputs() {
        Galleyforge g = paragraph("33333", "0");
        int[][] wrong = {{2, 0}, {-1, 0}, {0, 1}, {0, -1}, {Integer.MAX_VALUE, 0}, {1, Integer.MIN_VALUE}};
        for (int[] w : wrong) {
            Check.noIndex("22", () -> g.lines(w[0], w[1]));
            Check.noIndex("23", () -> g.lineEnd(w[0], w[1], 0));
            Check.noIndex("24", () -> g.tightness(w[0], w[1], 0));
            Check.noIndex("25", () -> g.demerits(w[0], w[1]));
            Check.noIndex("26", () -> g.demeritsByAll(w[0], w[1]));
        }
        Check.noIndex("23 line -1", () -> g.lineEnd(0, 0, -1));
        Check.noIndex("24 line -1", () -> g.tightness(0, 0, -1));
    }
}
