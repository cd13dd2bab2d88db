/** The boundary cases of the section 'Lines', sentence by sentence. Letters are 2, 3, 4 and 6 wide, a space is 3. */
public final class LineEdgesTest {
    private static final long LEAST = 100;
    private static final long MOST = 6410L * 6410;
    private static final long MOST_AT_GAP = 6460L * 6460;

    public static void main(String[] args) {
        thePaperAtFirst();
        widthsOfPaper();
        indentsAndSides();
        atLeastTen();
        belowTheDepth();
        sideOrDepthAlone();
        widthsOfColumns();
        withoutWords();
        endsOfWordsBetween();
        hyphens();
        lastLines();
        withoutSpaces();
        lackOfOneSpace();
        lackOfMoreSpaces();
        tooWideBySpaces();
        tooWideOnOtherLines();
        toTheNextPlace();
        classesThatDiffer();
        gapsOneBehindTheOther();
        ofSeveralWays();
        aWordIsWhereItBegins();
        placesInTheBlock();
        byAllWays();
        mostLines();
        Check.end("LineEdgesTest");
    }

    private static long sq(long n) {
        return n * n;
    }

    private static Galleyforge styled(int paper, int indent, int side, int depth, String... words) {
        Galleyforge g = new Galleyforge();
        g.paper(paper, 12);
        Check.add(g, Galleyforge.PARAGRAPH, words);
        g.style(0, Galleyforge.INDENT, indent);
        g.style(0, Galleyforge.SIDE, side);
        g.style(0, Galleyforge.DEPTH, depth);
        return g;
    }

    /** "a width, 60 at first, and a height, 12 at first". */
    private static void thePaperAtFirst() {
        Galleyforge g = new Galleyforge();
        Check.add(g, Galleyforge.PARAGRAPH, "33333", "33331");
        Check.lines("60", g, LEAST, 10, 1);
        g.take(0, 1);
        Check.words(g, 0, "33332");
        Check.lines("not 61", g, sq(110), 10, 0);
        Galleyforge h = new Galleyforge();
        Check.add(h, Galleyforge.CONTENTS);
        Check.add(h, Galleyforge.TABLE);
        h.cell(1, 1, 0, 1, 60, 200);
        for (int k = 0; k < 3; k++) {
            Check.add(h, Galleyforge.HEADING);
        }
        // 3 rows, 1 and 4, and three times 2
        Check.due("14 are more than 12", h.pages(0), 2);
        h.remove(4);
        // 2 rows, 1 and 4, and two times 2
        Check.pages("11 of 12", h, 0, 6, 0, 11);
        Check.add(h, Galleyforge.PARAGRAPH, "0");
        Check.pages("12 of 12", h, 0, 7, 0, 12);
        Check.add(h, Galleyforge.PARAGRAPH, "0");
        Check.due("13 of 12", h.pages(0), 2);
        Check.due("the width that it had", h.paper(61, 12), 60);
    }

    /** Promise 14: 30 to 120. */
    private static void widthsOfPaper() {
        Check.lines("30 of 30", styled(30, 0, 0, 0, "33333"), LEAST, 0, 1);
        Check.lines("31 of 30", styled(30, 0, 0, 0, "333321"), MOST, 0, 0);
        Check.lines("31 of 31", styled(31, 0, 0, 0, "333321"), LEAST, 0, 1);
        Check.lines("120 of 120", styled(120, 0, 0, 0, "333333", "333333", "333333", "1"), LEAST, 30, 1);
        Check.lines("121 of 120", styled(120, 0, 0, 0, "333333", "333333", "333333", "2"), sq(13), 30, 1);
        Check.lines("120 of 119", styled(119, 0, 0, 0, "333333", "333333", "333333", "1"), sq(13), 30, 1);
    }

    /** "that of the paper less 6 for each indent, and less the side". */
    private static void indentsAndSides() {
        Check.lines("24 of 24", styled(30, 1, 0, 0, "3333"), LEAST, 0, 1);
        Check.lines("25 of 24", styled(30, 1, 0, 0, "33321"), MOST, 0, 0);
        Check.lines("18 of 18", styled(30, 2, 0, 0, "333"), LEAST, 0, 1);
        Check.lines("19 of 18", styled(30, 2, 0, 0, "3321"), MOST, 0, 0);
        Check.lines("23 of 23", styled(36, 2, 1, 1, "33310"), LEAST, 0, 1);
        Check.lines("24 of 23", styled(36, 2, 1, 1, "3333"), MOST, 0, 0);
        Check.lines("30 of 30", styled(60, 0, 30, 1, "33333"), LEAST, 0, 1);
        Check.lines("31 of 30", styled(60, 0, 30, 1, "333321"), MOST, 0, 0);
    }

    /** "but at least 10". */
    private static void atLeastTen() {
        Check.lines("11 of 11", styled(30, 2, 7, 1, "310"), LEAST, 0, 1);
        Check.lines("12 of 11", styled(30, 2, 7, 1, "33"), MOST, 0, 0);
        Check.lines("10 of 10", styled(30, 2, 8, 1, "32"), LEAST, 0, 1);
        Check.lines("11 of 10", styled(30, 2, 8, 1, "310"), MOST, 0, 0);
        Check.lines("10 of 9", styled(30, 2, 9, 1, "32"), LEAST, 0, 1);
        Check.lines("11 of 9", styled(30, 2, 9, 1, "310"), MOST, 0, 0);
        Check.lines("10 of less than 0", styled(30, 2, 30, 3, "32"), LEAST, 0, 1);
        Check.lines("11 of less than 0", styled(30, 2, 30, 3, "310"), MOST, 0, 0);
        Check.lines("10 of 10 by the side alone", styled(40, 0, 30, 1, "32"), LEAST, 0, 1);
        Check.lines("11 of 10 by the side alone", styled(40, 0, 30, 1, "310"), MOST, 0, 0);
        Check.lines("11 of 11 by the side alone", styled(41, 0, 30, 1, "310"), LEAST, 0, 1);
    }

    /** "if k is below the depth": the lines from 0 on, full ones each. */
    private static void belowTheDepth() {
        String[][] words = {{"33333", "33333", "33333", "33333"}, {"333", "33333", "33333", "33333"},
            {"333", "333", "33333", "33333"}, {"333", "333", "333", "33333"}};
        for (int depth = 0; depth <= 3; depth++) {
            for (int filled = 0; filled <= 3; filled++) {
                Galleyforge g = styled(30, 0, 12, depth, words[filled]);
                String what = "depth " + depth + ", narrow words " + filled;
                Check.due(what + ": lines", g.lines(0, 0), 4);
                Check.due(what + ": full", g.demerits(0, 0) == 400 ? 1 : 0, depth == filled ? 1 : 0);
            }
            Check.lines("depth " + depth, styled(30, 0, 12, depth, words[depth]), 400, 0, 1, 10, 1, 20, 1, 30, 1);
        }
    }

    private static void sideOrDepthAlone() {
        Check.lines("a side without depth", styled(30, 0, 30, 0, "33333", "33333"), 200, 0, 1, 10, 1);
        Check.lines("a depth without side", styled(30, 0, 0, 3, "33333", "33333"), 200, 0, 1, 10, 1);
    }

    /** "half of what the width of the paper is above 4, rounded down". */
    private static void widthsOfColumns() {
        Check.lines("13 of 13", columns(30, "321"), LEAST, 0, 1);
        Check.lines("14 of 13", columns(30, "330"), MOST, 0, 0);
        Check.lines("14 of 13 and a half", columns(31, "330"), MOST, 0, 0);
        Check.lines("14 of 14", columns(32, "330"), LEAST, 0, 1);
        Check.lines("58 of 58", columns(120, "33333", "33321"), LEAST, 10, 1);
        Check.lines("59 of 58", columns(120, "33333", "33330"), sq(110), 10, 0);
        Check.lines("58 of 57 and a half", columns(119, "33333", "33321"), sq(110), 10, 0);
        Check.lines("each column as wide", columns(30, "321", "321", "321"), 300, 0, 1, 10, 1, 20, 1);
    }

    private static Galleyforge columns(int paper, String... words) {
        Galleyforge g = new Galleyforge();
        g.paper(paper, 12);
        Check.add(g, Galleyforge.COLUMNS, words);
        return g;
    }

    /** "A paragraph with words is broken into lines"; promises 22 to 26 without any. */
    private static void withoutWords() {
        Check.lines("a paragraph without words", styled(30, 0, 0, 0), 0);
        Check.lines("columns without words", columns(30), 0);
        Galleyforge g = styled(30, 0, 0, 0);
        Check.marked(g, 0, Galleyforge.ONLY, 1, "0");
        Check.lines("a word of the other variant", g, 0);
        Check.due("none by all ways", g.demeritsByAll(0, 0), 0);
        Check.due("a line there", g.lines(1, 0), 1);
        Check.due("its demerits", g.demeritsByAll(1, 0), LEAST);
        g.take(0, 0);
        Check.due("none again", g.lines(1, 0), 0);
        Check.due("no demerits", g.demerits(1, 0), 0);
    }

    /** "how many ends of words lie between both, neither counted"; "3 times m". */
    private static void endsOfWordsBetween() {
        Check.lines("one word", styled(30, 0, 0, 0, "33333"), LEAST, 0, 1);
        Check.lines("two words", styled(30, 0, 0, 0, "33", "331"), LEAST, 10, 1);
        Check.lines("three words", styled(30, 0, 0, 0, "32", "32", "2"), LEAST, 20, 1);
        // 14 and 18: 2 more than 30, of 6 spaces
        Check.lines("seven words", styled(30, 0, 0, 0, "0", "0", "0", "0", "0", "0", "0"), sq(10 + 3), 60, 1);
        Check.lines("six words", styled(30, 0, 0, 0, "0", "0", "1", "0", "1", "1"), LEAST, 50, 1);
        // 12, 3, 10 and 6: 1 more than 30, of 2 spaces
        Check.lines("a reference among them", styled(30, 0, 0, 0, "33", "r0", "32", "0"), sq(22) + LEAST, 20, 0, 30, 1);
    }

    /** "and 2, if it ends at a gap". */
    private static void hyphens() {
        long[] due = {MOST_AT_GAP + LEAST, sq(60) + LEAST, MOST_AT_GAP + LEAST + 3000};
        int[] classes = {0, 1, 3};
        for (int k = 0; k < 3; k++) {
            // the first line ends at gap 2, the second one has all else
            Galleyforge g = styled(30, 0, 17 - k, 1, "333333");
            Check.pattern(g, "3", 0, 1);
            Check.lines("12 and 2 of " + (13 + k), g, due[k], 2, classes[k], 0, 1);
        }
        Galleyforge g = styled(30, 0, 0, 0, "3", "333333");
        Check.pattern(g, "33", 0, 1);
        // 6, a space, 12 and 2 are 23; with 18 and 2 they are 29, the spread is 50
        Check.lines("with a space", g, sq(10 + 12 + 50) + LEAST, 13, 2, 10, 1);
    }

    /** "It is the last line, and its natural width is at most its width: the spread is 0, the class 1." */
    private static void lastLines() {
        Check.lines("much lacks", styled(120, 0, 0, 0, "0"), LEAST, 0, 1);
        Check.lines("much lacks of a space", styled(120, 0, 0, 0, "0", "0"), LEAST, 10, 1);
        Check.lines("1 lacks of a space", styled(30, 0, 0, 0, "33", "330"), LEAST, 10, 1);
        Check.lines("nothing lacks", styled(30, 0, 0, 0, "33", "331"), LEAST, 10, 1);
        Check.lines("1 too wide", styled(30, 0, 0, 0, "33", "332"), sq(110), 10, 0);
        Check.lines("2 too wide", styled(30, 0, 0, 0, "33", "3310"), MOST + 3000 + LEAST, 0, 3, 10, 1);
        Check.lines("1 too wide without spaces", styled(30, 0, 0, 0, "333321"), MOST, 0, 0);
    }

    /** "and m is 0: the spread is 0, the class 1, if both are the same; otherwise the spread is 400, the class 3". */
    private static void withoutSpaces() {
        Check.lines("the same", styled(30, 0, 0, 0, "33333", "33333"), 2 * LEAST, 0, 1, 10, 1);
        Check.lines("1 less", styled(30, 0, 0, 0, "333310", "33333"), MOST + 3000 + LEAST, 0, 3, 10, 1);
        Check.lines("1 more", styled(30, 0, 0, 0, "333321", "33333"), MOST + LEAST, 0, 0, 10, 1);
        Check.lines("much less", styled(30, 0, 0, 0, "0", "33333"), MOST + 3000 + LEAST, 0, 3, 10, 1);
    }

    /** The spread is 50 for each that lacks, "but at most 400"; the classes are 1, then 2 "for 50 to 100", then 3. */
    private static void lackOfOneSpace() {
        String[] second = {"331", "330", "321", "33", "22", "21", "3", "0"};
        int[] lacks = {0, 1, 2, 3, 7, 8, 9, 13};
        int[] spreads = {0, 50, 100, 150, 350, 400, 400, 400};
        int[] thirds = {0, 12, 100, 337, 4287, 6400, 6400, 6400};
        for (int k = 0; k < lacks.length; k++) {
            int its = spreads[k] < 50 ? 1 : spreads[k] <= 100 ? 2 : 3;
            Check.lines(lacks[k] + " lack of one space", styled(30, 0, 0, 0, "33", second[k], "33333"),
                    sq(10 + thirds[k]) + LEAST + (its == 3 ? 3000 : 0), 10, its, 20, 1);
        }
    }

    /** "100 times what it lacks, divided by 2 times m": rounded down. */
    private static void lackOfMoreSpaces() {
        twoLines("1 of two spaces", 11, 1, "32", "31", "2");
        twoLines("2 of two spaces", 22, 2, "32", "31", "1");
        // 75: 421875
        twoLines("3 of two spaces", 10 + 42, 2, "32", "31", "0");
        twoLines("4 of two spaces", 110, 2, "32", "30", "0");
        // 125: 1953125
        twoLines("5 of two spaces", 10 + 195, 3, "32", "21", "0");
        // 33: 35937
        twoLines("2 of three spaces", 10 + 3, 1, "30", "20", "0", "1");
        twoLines("3 of three spaces", 22, 2, "30", "20", "0", "0");
        twoLines("6 of three spaces", 110, 2, "3", "1", "2", "0");
        // 116: 1560896
        twoLines("7 of three spaces", 10 + 156, 3, "3", "2", "0", "0");
        // 366: 49027896, of a line of 40
        Check.lines("22 of three spaces", styled(40, 0, 0, 0, "0", "0", "0", "1", "333333"),
                sq(10 + 4902) + LEAST + 3000, 30, 3, 40, 1);
    }

    /** A line of these words, and one that is full. */
    private static void twoLines(String what, long demeritsRoot, int its, String... words) {
        Galleyforge g = styled(30, 0, 0, 0, words);
        Check.words(g, 0, "33333");
        Check.lines(what, g, sq(demeritsRoot) + LEAST + (its == 3 ? 3000 : 0),
                10 * (words.length - 1), its, 10 * words.length, 1);
    }

    /** "What its natural width is more than its width is at most m"; "1 for a spread below 50, 0 otherwise". */
    private static void tooWideBySpaces() {
        oneLine("1 of one space", 110, 0, "33", "332");
        oneLine("1 of two spaces", 22, 0, "32", "31", "3");
        oneLine("2 of two spaces", 110, 0, "32", "32", "3");
        oneLine("1 of three spaces", 13, 1, "3", "3", "3", "2");
        // 66: 287496
        oneLine("2 of three spaces", 38, 0, "3", "3", "3", "01");
        oneLine("3 of three spaces", 110, 0, "3", "3", "3", "3");
        // 25: 15625
        oneLine("1 of four spaces", 11, 1, "2", "2", "2", "2", "1");
        oneLine("2 of four spaces", 22, 0, "2", "2", "2", "2", "2");
        Check.due("2 of one space", styled(30, 0, 0, 0, "33", "3310").lines(0, 0), 2);
        Check.due("3 of two spaces", styled(30, 0, 0, 0, "32", "320", "30").lines(0, 0), 2);
        Check.due("4 of three spaces", styled(30, 0, 0, 0, "3", "3", "3", "12").lines(0, 0), 2);
        // 11 times 2, 36 and 11 spaces are 91; 45 is below 50, 54 is not
        String[] twelve = {"0", "0", "0", "0", "0", "0", "0", "0", "0", "0", "0", "333333"};
        Check.lines("5 of eleven spaces", styled(86, 0, 0, 0, twelve), sq(10 + 9), 110, 1);
        Check.lines("6 of eleven spaces", styled(85, 0, 0, 0, twelve), sq(10 + 15), 110, 0);
    }

    private static void oneLine(String what, long demeritsRoot, int its, String... words) {
        Check.lines(what, styled(30, 0, 0, 0, words), sq(demeritsRoot), 10 * (words.length - 1), its);
    }

    /** The same for lines that are not the last one. */
    private static void tooWideOnOtherLines() {
        Check.lines("1 too wide of one space", styled(30, 0, 0, 0, "33", "332", "33333"), sq(110) + LEAST, 10, 0, 20, 1);
        Check.lines("1 too wide of three spaces", styled(30, 0, 0, 0, "3", "3", "3", "2", "33333"),
                sq(13) + LEAST, 30, 1, 40, 1);
        Check.lines("2 too wide of one space", styled(30, 0, 0, 0, "33", "3310", "33333"),
                2 * MOST + 3000 + LEAST, 0, 3, 10, 3, 20, 1);
    }

    /** "It goes from a place to the next one: the spread is 400, the class 0"; otherwise there can be no such line. */
    private static void toTheNextPlace() {
        Check.lines("a word", styled(30, 0, 0, 0, "333333", "333333"), 2 * MOST, 0, 0, 10, 0);
        Check.lines("a narrow word behind it", styled(30, 0, 0, 0, "333333", "0"), MOST + LEAST, 0, 0, 10, 1);
        Check.lines("a narrow word ahead of it", styled(30, 0, 0, 0, "0", "333333"), 2 * MOST + 3000, 0, 3, 10, 0);
        // with a gap in it the word goes no more from a place to the next one
        Galleyforge g = styled(30, 0, 0, 0, "333333", "0");
        Check.pattern(g, "333", 3, 1);
        Check.lines("a word with gaps", g, MOST_AT_GAP + 3000 + LEAST, 3, 3, 10, 1);
        g = styled(30, 2, 8, 3, "33333");
        Check.pattern(g, "333", 3, 1);
        // 18 and 2 ahead of the gap, 12 behind it, of 10
        Check.lines("parts of a word", g, MOST_AT_GAP + MOST, 3, 0, 0, 0);
    }

    /** "3000, if its class and that of the line ahead of it differ by more than 1": all classes behind all. */
    private static void classesThatDiffer() {
        String[][] words = {{"333333"}, {"33333"}, {"33", "321"}, {"33", "33"}};
        long[] demerits = {MOST, LEAST, sq(110), sq(347)};
        for (int one = 0; one < 4; one++) {
            for (int other = 0; other < 4; other++) {
                Galleyforge g = styled(30, 0, 0, 0, words[one]);
                Check.words(g, 0, words[other]);
                Check.words(g, 0, "33333");
                int first = 10 * (words[one].length - 1);
                int second = first + 10 * words[other].length;
                long more = (one - other > 1 || other - one > 1 ? 3000 : 0) + (other == 3 ? 3000 : 0);
                Check.lines("class " + other + " behind class " + one, g, demerits[one] + demerits[other] + LEAST + more,
                        first, one, second, other, second + 10, 1);
            }
        }
    }

    /** "and 2000, if it and the line ahead of it both end at gaps". */
    private static void gapsOneBehindTheOther() {
        Galleyforge g = styled(30, 0, 0, 0, "33333", "333333");
        Check.pattern(g, "333", 3, 1);
        // the first line ends with a word, the second one at a gap, the third one with a word
        Check.lines("a gap alone", g, LEAST + MOST_AT_GAP + 3000 + LEAST + 3000, 0, 1, 13, 3, 10, 1);
        g = styled(30, 2, 0, 0, "333333");
        Check.pattern(g, "3", 0, 1);
        Check.lines("two gaps", g, 2 * MOST_AT_GAP + 2000 + 3000 + LEAST, 2, 3, 3, 3, 0, 1);
        g = styled(30, 0, 10, 2, "333333", "33333");
        Check.pattern(g, "333", 3, 1);
        // 18 and 2 of 20; 18, a space, 18 and 2 are more: 18 of 20; the gap 3 of the second word is not reached
        Check.lines("a word between", g, sq(60) + MOST + 3000 + LEAST + 3000, 3, 1, 0, 3, 10, 1);
    }

    /** "of several ways by the fewest lines; of several by the one with the lesser end of the first line". */
    private static void ofSeveralWays() {
        Galleyforge g = styled(30, 0, 0, 0, "333333", "0");
        Check.pattern(g, "3", 0, 1);
        Check.lines("gaps 2, 3 and 4 are alike", g, MOST_AT_GAP + 3000 + LEAST, 2, 3, 10, 1);
        g = styled(30, 0, 0, 0, "33333", "333333", "0");
        Check.pattern(g, "333", 0, 1);
        Check.due("gaps of the first word", g.gaps(0, 0), 4);
        Check.due("gaps of the second word", g.gaps(0, 1), 4 + 8);
        Check.lines("the second line differs", g, LEAST + MOST_AT_GAP + 3000 + LEAST + 3000, 0, 1, 12, 3, 20, 1);
        // 16 + 9 + 400 as 225 + 100 + 100: two lines of 28 as three ones
        g = styled(34, 1, 0, 0, "0", "1", "0", "1", "1", "0", "3", "3", "2", "2");
        Check.lines("the fewest lines", g, 256 + 169, 50, 1, 90, 1);
    }

    /** "A word is in the line, and so in the row, in which it begins." */
    private static void aWordIsWhereItBegins() {
        Galleyforge g = styled(30, 2, 0, 0, "333333", "0", "333");
        Check.pattern(g, "3", 0, 1);
        Check.due("its lines", g.lines(0, 0), 4);
        Check.due("it ends in the third line", g.lineEnd(0, 0, 2), 10);
        Check.due("it begins in the first one", g.whereIs(0, 0, 0), 1000);
        Check.due("the next one begins where it ends", g.whereIs(0, 0, 1), 1002);
        Check.due("the last one", g.whereIs(0, 0, 2), 1003);
    }

    /** Promise 23: "the place in the block of its last word", whatever variant the words ahead have. */
    private static void placesInTheBlock() {
        Galleyforge g = styled(30, 0, 0, 0);
        Check.marked(g, 0, Galleyforge.ONLY, 1, "33333");
        Check.marked(g, 0, Galleyforge.ONLY, 0, "33333");
        Check.words(g, 0, "333333");
        Check.pattern(g, "333", 3, 2);
        Check.due("the first line of variant 0", g.lineEnd(0, 0, 0), 10);
        Check.due("the first line of variant 1", g.lineEnd(1, 0, 0), 0);
        Check.due("the second line of variant 0", g.lineEnd(0, 0, 1), 20);
        Check.due("the second line of variant 1", g.lineEnd(1, 0, 1), 20);
        Check.noIndex("no third line", () -> g.lineEnd(1, 0, 2));
    }

    /** Promise 26: "NONE if lines can end at more than 12 places". */
    private static void byAllWays() {
        Galleyforge g = styled(30, 0, 0, 0);
        for (int places = 1; places <= 12; places++) {
            Check.words(g, 0, "333");
            Check.due("places: " + places, g.demeritsByAll(0, 0), g.demerits(0, 0));
            Check.due("some: " + places, g.demerits(0, 0) > 0 ? 1 : 0, 1);
        }
        g.take(0, 11);
        Check.words(g, 0, "3333");
        Check.due("twelve places", g.demeritsByAll(0, 0), g.demerits(0, 0));
        Check.pattern(g, "333", 2, 1);
        Check.due("thirteen places", g.demeritsByAll(0, 0), -1);
        g.take(0, 0);
        Check.due("twelve places again", g.demeritsByAll(0, 0), g.demerits(0, 0));
        Check.marked(g, 0, Galleyforge.ONLY, 1, "333");
        Check.due("thirteen in one variant", g.demeritsByAll(1, 0), -1);
        Check.due("twelve in the other one", g.demeritsByAll(0, 0), g.demerits(0, 0));
        Galleyforge h = styled(30, 0, 0, 0, "333333", "333333", "333333");
        Check.pattern(h, "3", 0, 1);
        Check.due("three words at twelve places", h.demeritsByAll(0, 0), h.demerits(0, 0));
        Check.words(h, 0, "0");
        Check.due("and one more", h.demeritsByAll(0, 0), -1);
        Check.due("broken all the same", h.lines(0, 0) > 3 ? 1 : 0, 1);
    }

    /** Twelve words with three gaps each: on lines of 13 no part has room beside another one. */
    private static void mostLines() {
        Galleyforge g = columns(30);
        for (int k = 0; k < 12; k++) {
            Check.words(g, 0, "333333");
        }
        Check.due("without gaps", g.lines(0, 0), 12);
        Check.pattern(g, "3", 0, 1);
        Check.due("four lines for each word", g.lines(0, 0), 48);
        for (int line = 0; line < 48; line++) {
            int gap = line % 4 == 3 ? 0 : line % 4 + 2;
            Check.due("end of line " + line, g.lineEnd(1, 0, line), 10 * (line / 4) + gap);
        }
        Check.noIndex("no more lines", () -> g.lineEnd(0, 0, 48));
        // 24 rows: the word 6 is in the line 24, the word 11 in the line 44
        Check.due("rows of the first page", g.on(0, 1, 0), 12);
        Check.due("the word 5", g.whereIs(0, 0, 5), 2008);
        Check.due("the word 6", g.whereIs(0, 0, 6), 1000);
        Check.due("the word 11", g.whereIs(0, 0, 11), 2008);
    }
}
