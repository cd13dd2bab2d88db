/** The boundary cases of the section 'Words', sentence by sentence. */
public final class WordEdgesTest {
    public static void main(String[] args) {
        widthsOfLetters();
        sixLetters();
        theSpelledTextStays();
        oneLetter();
        labelsOfReferences();
        linesOfNotes();
        figuresToMention();
        termsAndVariants();
        allAtOnce();
        draftsStay();
        draftsAreDropped();
        draftsBelongToOneWord();
        eightPatterns();
        lettersOfPatterns();
        gapsOfPatterns();
        levelsOfPatterns();
        whereverTheLettersStand();
        theGreatestLevelCounts();
        twoLettersOnEachSide();
        referencesCannotBeBroken();
        patternsForAllWords();
        Check.end("WordEdgesTest");
    }

    /** "There are the letters 0 to 3, with the widths 2, 3, 4 and 6." */
    private static void widthsOfLetters() {
        String[] words = {"000000", "111111", "222222", "333333"};
        int[] widths = {12, 18, 24, 36};
        for (int letter = 0; letter < 4; letter++) {
            Check.lines("letter " + letter + " fits", Check.paragraph(widths[letter], words[letter]), 100, 0, 1);
            Check.lines("letter " + letter + " is too wide", Check.paragraph(widths[letter] - 1, words[letter]),
                    6410 * 6410, 0, 0);
        }
    }

    /** "A text of at most 6 letters can be spelled". */
    private static void sixLetters() {
        Galleyforge g = Check.paragraph(36);
        for (int k = 1; k <= 6; k++) {
            Check.due("letter " + k, g.spell(3), k);
        }
        Check.noState("the seventh letter", () -> g.spell(0));
        g.word(0, 0);
        Check.lines("six letters of 6", g, 100, 0, 1);
        g.paper(35, 12);
        Check.lines("not more", g, 6410 * 6410, 0, 0);
        Check.due("empty then", g.unspell(), 0);
        Check.due("the first letter again", g.spell(0), 1);
    }

    /** "and is there until it is used". */
    private static void theSpelledTextStays() {
        Galleyforge g = Check.paragraph(30, "33");
        Check.spell(g, "012");
        g.mark(Galleyforge.NOTE, 1);
        g.block(0, Galleyforge.TABLE);
        g.cell(0, 0, 0, 1, 0, 0);
        g.figure(0, 1);
        g.style(1, Galleyforge.INDENT, 1);
        g.key(0, 1);
        g.reference(1, 0, 0);
        g.take(1, 0);
        g.remove(0);
        g.costAnew(0);
        g.paper(60, 12);
        Check.noArgument("a pattern that is refused", () -> g.pattern(4, 1));
        Check.noIndex("a word that is refused", () -> g.word(0, 9));
        Check.due("one letter more", g.spell(3), 4);
        g.word(0, 1);
        Check.due("used by the word", g.unspell(), 0);
        Check.spell(g, "01");
        g.pattern(0, 1);
        Check.due("used by the pattern", g.unspell(), 0);
    }

    /** "A word is such a text of at least one letter". */
    private static void oneLetter() {
        Galleyforge g = Check.paragraph(30);
        Check.noState("no letter", () -> g.word(0, 0));
        g.spell(0);
        Check.due("one letter", g.word(0, 0), 1);
        Check.lines("one letter", g, 100, 0, 1);
        Check.noState("none again", () -> g.word(0, 0));
    }

    /** "or a reference to a label, 0 to 5". */
    private static void labelsOfReferences() {
        Galleyforge g = Check.paragraph(30);
        Check.noIndex("label -1", () -> g.reference(0, 0, -1));
        Check.noIndex("label 6", () -> g.reference(0, 0, 6));
        for (int label = 0; label <= 5; label++) {
            Check.due("label " + label, g.reference(0, label, label), label + 1);
        }
        // 5 times 3 and 4 spaces: 3 less than 30, a spread of 37
        Check.lines("each is 3 wide", g, 15 * 15 + 100, 40, 1, 50, 1);
    }

    /** "a note of 1 to 5 lines". */
    private static void linesOfNotes() {
        for (int lines = 1; lines <= 5; lines++) {
            Galleyforge g = Check.paper(12);
            Check.marked(g, Check.add(g, Galleyforge.HEADING), Galleyforge.NOTE, lines, "0");
            Check.pages(lines + " lines", g, 0, 1, lines, 2 + lines + 1);
        }
        Galleyforge g = new Galleyforge();
        Check.noArgument("0 lines", () -> g.mark(Galleyforge.NOTE, 0));
        Check.noArgument("6 lines", () -> g.mark(Galleyforge.NOTE, 6));
    }

    /** "a mention of a figure". */
    private static void figuresToMention() {
        Galleyforge g = Check.paper(40);
        Check.add(g, Galleyforge.HEADING);
        for (int figure = 0; figure < 5; figure++) {
            int which = figure;
            Check.noArgument("there is no figure " + figure, () -> g.mark(Galleyforge.MENTION, which));
            g.figure(0, 1);
            Check.due("nowhere " + figure, g.figureAt(0, figure), -1);
            Check.due("now it is there", g.mark(Galleyforge.MENTION, figure), -1);
            Check.words(g, 0, "0");
            Check.due("mentioned " + figure, g.figureAt(0, figure), 11);
        }
        Check.noArgument("there is no figure 5", () -> g.mark(Galleyforge.MENTION, 5));
    }

    /** "a label, a term of the index, 0 to 7, and a variant, 0 or 1, in which alone it is there". */
    private static void termsAndVariants() {
        Galleyforge g = Check.paper(40);
        Check.add(g, Galleyforge.HEADING);
        for (int term = 0; term <= 7; term++) {
            Check.marked(g, 0, Galleyforge.TERM, term, "0");
            Check.due("term " + term, g.indexAt(1, term), term);
        }
        for (int label = 0; label <= 5; label++) {
            g.take(0, 0);
            Check.due("no label " + label, g.labelPage(0, label), -1);
            Check.marked(g, 0, Galleyforge.LABEL, label, "0");
            Check.due("label " + label, g.labelPage(1, label), 1);
        }
        g.take(0, 0);
        Check.marked(g, 0, Galleyforge.ONLY, 0, "0");
        Check.due("variant 0 alone", g.whereIs(0, 0, 7), 1000);
        Check.due("not variant 1", g.whereIs(1, 0, 7), -1);
        Check.marked(g, 0, Galleyforge.ONLY, 1, "0");
        Check.due("variant 1 alone", g.whereIs(1, 0, 8), 1000);
        Check.due("not variant 0", g.whereIs(0, 0, 8), -1);
        Check.due("the others are in both", g.whereIs(0, 0, 0) + g.whereIs(1, 0, 0), 2000);
    }

    /** "Besides, a word can have" all of them. */
    private static void allAtOnce() {
        Galleyforge g = Check.paper(12);
        g.figure(0, 3);
        Check.add(g, Galleyforge.HEADING, "0");
        g.mark(Galleyforge.NOTE, 4);
        g.mark(Galleyforge.MENTION, 0);
        g.mark(Galleyforge.LABEL, 5);
        g.mark(Galleyforge.TERM, 7);
        g.mark(Galleyforge.ONLY, 1);
        g.reference(0, 0, 5);
        Check.due("its note and its figure", g.on(1, 1, 2), 2 + 5 + 3);
        Check.due("its figure", g.figureAt(1, 0), 11);
        Check.due("its label", g.labelPage(1, 5), 1);
        Check.due("its term", g.range(1, 7, 0), 1001);
        Check.due("none of them in the other variant", g.on(0, 1, 2), 2);
        Check.due("no figure", g.figureAt(0, 0), -1);
        Check.due("no label", g.labelPage(0, 5), -1);
        Check.noIndex("no term", () -> g.indexAt(0, 0));
    }

    /** "these are drafted ahead of it": whatever is called between. */
    private static void draftsStay() {
        Galleyforge g = Check.paper(12);
        g.figure(0, 3);
        Check.add(g, Galleyforge.HEADING, "0");
        for (int what = 0; what < 5; what++) {
            g.mark(what, what == 4 ? 1 : what == 1 ? 0 : 5);
        }
        Check.noState("a word that is refused", () -> g.word(0, 0));
        Check.noIndex("a reference that is refused", () -> g.reference(0, 0, 6));
        Check.noArgument("a draft that is refused", () -> g.mark(Galleyforge.NOTE, 6));
        Check.pattern(g, "0", 0, 1);
        g.spell(0);
        g.unspell();
        g.take(0, 0);
        g.block(0, Galleyforge.TABLE);
        g.cell(0, 0, 0, 1, 0, 0);
        g.remove(1);
        g.figure(1, 1);
        g.paper(40, 20);
        g.key(5, 5);
        g.pages(1);
        for (int what = 0; what < 5; what++) {
            Check.due("drafted " + what, g.mark(what, -1), what == 4 ? 1 : what == 1 ? 0 : 5);
        }
    }

    /** "or NONE for none": what is drafted last counts. */
    private static void draftsAreDropped() {
        Galleyforge g = Check.paper(12);
        Check.add(g, Galleyforge.HEADING);
        Check.due("nothing drafted", g.mark(Galleyforge.NOTE, 3), -1);
        Check.due("a note of 3", g.mark(Galleyforge.NOTE, 2), 3);
        Check.due("a note of 2", g.mark(Galleyforge.NOTE, 2), 2);
        Check.due("a note of 2 still", g.mark(Galleyforge.NOTE, -1), 2);
        Check.due("a label", g.mark(Galleyforge.LABEL, 1), -1);
        Check.due("another one", g.mark(Galleyforge.LABEL, 0), 1);
        Check.words(g, 0, "0");
        Check.due("no note", g.on(0, 1, 1), 0);
        Check.due("no first label", g.labelPage(0, 1), -1);
        Check.due("the last one", g.labelPage(0, 0), 1);
    }

    /** "and belong to the next word that is put in": to it alone, wherever that is, as long as it is there. */
    private static void draftsBelongToOneWord() {
        Galleyforge g = Check.paper(12);
        Check.add(g, Galleyforge.HEADING, "0", "0");
        Check.add(g, Galleyforge.HEADING, "0");
        g.mark(Galleyforge.NOTE, 3);
        g.spell(0);
        g.word(0, 1);
        g.spell(0);
        g.word(1, 0);
        g.reference(0, 0, 0);
        Check.due("one note", g.on(0, 1, 1), 3);
        g.take(0, 1);
        Check.due("the word ahead of it is taken", g.on(0, 1, 1), 3);
        g.take(0, 1);
        Check.due("it is taken itself", g.on(0, 1, 1), 0);
        for (int what = 0; what < 5; what++) {
            Check.due("nothing is drafted then: " + what, g.mark(what, -1), -1);
        }
    }

    /** "There can be 8 patterns": the eighth one counts, too. */
    private static void eightPatterns() {
        Galleyforge g = Check.paragraph(30, "333333");
        for (int k = 1; k < 8; k++) {
            Check.pattern(g, "0", 0, 1);
        }
        Check.due("seven patterns", g.gaps(0, 0), 0);
        g.spell(3);
        Check.due("the eighth", g.pattern(0, 1), 8);
        Check.due("eight patterns", g.gaps(0, 0), 28);
        g.spell(3);
        Check.noState("the ninth", () -> g.pattern(0, 2));
        Check.due("eight patterns still", g.gaps(0, 0), 28);
        Check.due("the letter stays", g.unspell(), 1);
    }

    /** "a pattern is a text of at most 3 letters". */
    private static void lettersOfPatterns() {
        Galleyforge g = Check.paragraph(30, "010101");
        Check.noState("no letters", () -> g.pattern(0, 1));
        Check.pattern(g, "1", 1, 1);
        Check.due("one letter", g.gaps(0, 0), 4 + 16);
        Check.pattern(g, "10", 0, 2);
        Check.due("two letters", g.gaps(0, 0), 4 + 16);
        Check.pattern(g, "101", 1, 2);
        Check.due("three letters", g.gaps(0, 0), 4 + 16 - 4 - 16);
        Check.spell(g, "1010");
        Check.noState("four letters", () -> g.pattern(0, 3));
        Check.due("four letters stay", g.unspell(), 4);
    }

    /** "with a gap, 0 to the number of its letters (0 ahead of the first letter, 1 behind it, and so on)". */
    private static void gapsOfPatterns() {
        // "12" stands behind the second letter
        int[] due = {4, 8, 16};
        for (int gap = 0; gap <= 2; gap++) {
            Galleyforge g = Check.paragraph(30, "001200");
            Check.pattern(g, "12", gap, 1);
            Check.due("gap " + gap, g.gaps(0, 0), due[gap]);
        }
        Galleyforge g = new Galleyforge();
        for (int letters = 1; letters <= 3; letters++) {
            int above = letters + 1;
            Check.spell(g, letters == 1 ? "0" : letters == 2 ? "00" : "000");
            Check.noArgument("gap -1", () -> g.pattern(-1, 1));
            Check.noArgument("gap " + above, () -> g.pattern(above, 1));
            Check.due("gap " + letters, g.pattern(letters, 1), letters);
        }
    }

    /** "and a level, 1 to 5"; "A word can be broken at a gap with an odd level". */
    private static void levelsOfPatterns() {
        for (int level = 1; level <= 5; level++) {
            Galleyforge g = Check.paragraph(30, "0101");
            Check.pattern(g, "10", 1, level);
            Check.due("level " + level, g.gaps(0, 0), level % 2 == 1 ? 4 : 0);
        }
        Galleyforge g = new Galleyforge();
        g.spell(0);
        Check.noArgument("level 0", () -> g.pattern(0, 0));
        Check.noArgument("level 6", () -> g.pattern(0, 6));
    }

    /** "In a word each pattern applies wherever its letters stand side by side in it". */
    private static void whereverTheLettersStand() {
        String[] patterns = {"00", "000", "000", "01", "01", "12", "10", "011"};
        int[] gaps = {1, 0, 3, 0, 2, 1, 1, 0};
        String[] words = {"000000", "000000", "000000", "333301", "013333", "102010", "010101", "010110"};
        int[] due = {4 + 8 + 16, 4 + 8, 8 + 16, 16, 4, 0, 4 + 16, 4};
        for (int k = 0; k < words.length; k++) {
            Galleyforge g = Check.paragraph(30, words[k]);
            Check.pattern(g, patterns[k], gaps[k], 1);
            Check.due(patterns[k] + " in " + words[k], g.gaps(0, 0), due[k]);
        }
        Galleyforge g = Check.paragraph(30, "00", "0000");
        Check.pattern(g, "000", 2, 1);
        Check.due("a word of fewer letters", g.gaps(0, 0), 0);
        Check.due("gaps 2 and 3", g.gaps(0, 1), 4);
    }

    /** "of several levels at a gap the greatest one counts, 0 without any". */
    private static void theGreatestLevelCounts() {
        for (int one = 1; one <= 5; one++) {
            for (int other = 1; other <= 5; other++) {
                Galleyforge g = Check.paragraph(30, "0101");
                Check.due("without any", g.gaps(0, 0), 0);
                Check.pattern(g, "10", 1, one);
                Check.pattern(g, "01", 2, other);
                int greatest = one > other ? one : other;
                Check.due("levels " + one + " and " + other, g.gaps(0, 0), greatest % 2 == 1 ? 4 : 0);
            }
        }
    }

    /** "that has at least two letters on each side". */
    private static void twoLettersOnEachSide() {
        String[] words = {"0", "00", "000", "0000", "00000", "000000"};
        int[] due = {0, 0, 0, 4, 4 + 8, 4 + 8 + 16};
        for (int k = 0; k < words.length; k++) {
            Galleyforge g = Check.paragraph(30, words[k]);
            Check.pattern(g, "0", 0, 1);
            Check.pattern(g, "0", 1, 1);
            Check.due("letters: " + (k + 1), g.gaps(0, 0), due[k]);
        }
    }

    /** "References cannot be broken." */
    private static void referencesCannotBeBroken() {
        Galleyforge g = Check.paragraph(30, "r0", "r5");
        for (int letter = 0; letter < 4; letter++) {
            g.spell(letter);
            g.pattern(0, 1);
        }
        Check.due("the first label", g.gaps(0, 0), 0);
        Check.due("the last label", g.gaps(0, 1), 0);
    }

    /** Patterns are those that there are now, for words that were there ahead of them, too. */
    private static void patternsForAllWords() {
        Galleyforge g = Check.paragraph(30, "3333", "333333");
        Check.add(g, Galleyforge.HEADING, "0303");
        Check.add(g, Galleyforge.COLUMNS);
        Check.marked(g, 2, Galleyforge.ONLY, 1, "3333");
        g.style(2, Galleyforge.VARIANT, 0);
        Check.pattern(g, "3", 0, 1);
        Check.due("a word ahead of it", g.gaps(0, 0), 4);
        Check.due("the next one", g.gaps(0, 1), 28);
        Check.due("a word of a heading", g.gaps(1, 0), 0);
        Check.due("a word that is in no variant", g.gaps(2, 0), 4);
        Check.pattern(g, "0", 0, 1);
        Check.words(g, 0, "3333");
        Check.due("a word behind it", g.gaps(0, 2), 4);
        Check.due("a heading's word again", g.gaps(1, 0), 4);
        Galleyforge broken = Check.paragraph(30, "333333");
        Check.lines("a line that is too wide", broken, 6410 * 6410, 0, 0);
        Check.pattern(broken, "333", 3, 1);
        Check.lines("broken anew", broken, 6460 * 6460 + 3000 + 100, 3, 3, 0, 1);
    }
}
