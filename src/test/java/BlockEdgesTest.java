/** The boundary cases of the section 'Blocks', sentence by sentence. */
public final class BlockEdgesTest {
    public static void main(String[] args) {
        sixteenBlocks();
        placesOfBlocks();
        aNewBlock();
        removedBlocks();
        twelveWords();
        placesOfWords();
        kindsWithoutWords();
        stylesAtFirst();
        stylesOfAnyKind();
        stylesOfUseForOthers();
        whatIsThere();
        variantsOfWordsThatCount();
        numbersOfHeadings();
        manyHeadings();
        headingsOfVariants();
        numbersOfParagraphs();
        blocksBetween();
        manyParagraphs();
        numberedOrNot();
        fiveFigures();
        keysOfTerms();
        onNothingElse();
        Check.end("BlockEdgesTest");
    }

    /** "A text has blocks, at most 16". */
    private static void sixteenBlocks() {
        Galleyforge g = new Galleyforge();
        for (int k = 1; k <= 16; k++) {
            Check.due("block " + k, g.block(k - 1, Galleyforge.HEADING), k);
        }
        Check.noState("the seventeenth ahead of all", () -> g.block(0, Galleyforge.HEADING));
        Check.noState("the seventeenth behind all", () -> g.block(16, Galleyforge.HEADING));
        Check.due("sixteen", g.blocks(), 16);
        Check.due("sixteen rows", g.contentsAt(0, 15) / 1000, 15);
        Check.due("one goes", g.remove(7), 15);
        Check.due("one comes", g.block(15, Galleyforge.HEADING), 16);
        Check.noState("the seventeenth again", () -> g.block(3, Galleyforge.HEADING));
    }

    /** "at the places 0, 1 and so on": a block moves those at its place and behind it. */
    private static void placesOfBlocks() {
        Galleyforge g = new Galleyforge();
        g.block(0, Galleyforge.HEADING);
        Check.words(g, 0, "0");
        Check.due("ahead of all", g.block(0, Galleyforge.HEADING), 2);
        Check.due("behind all", g.block(2, Galleyforge.HEADING), 3);
        Check.words(g, 2, "0", "0");
        Check.due("between", g.block(1, Galleyforge.COLUMNS), 4);
        Check.words(g, 1, "0", "0", "0");
        int[] words = {0, 3, 1, 2};
        for (int place = 0; place < 4; place++) {
            Check.due("words at " + place, g.words(place), words[place]);
        }
        Check.noIndex("not behind the place behind all", () -> g.block(5, Galleyforge.HEADING));
        Check.noIndex("not ahead of the first place", () -> g.block(-1, Galleyforge.HEADING));
        Check.noIndex("the place first, then the kind", () -> g.block(-1, 7));
        Check.noIndex("no words behind all", () -> g.words(4));
    }

    /** "Puts an empty block into the text", at first with the first styles. */
    private static void aNewBlock() {
        Galleyforge g = new Galleyforge();
        Check.add(g, Galleyforge.TABLE);
        g.cell(0, 3, 2, 1, 9, 9);
        g.style(0, Galleyforge.KEEP, 1);
        g.remove(0);
        g.block(0, Galleyforge.TABLE);
        Check.noIndex("no rows", () -> g.rowHeight(0, 0));
        Check.noIndex("no columns", () -> g.columnWidth(0, 0));
        Check.due("not kept", g.style(0, Galleyforge.KEEP, 0), 0);
        Check.due("the first cell", g.cell(0, 0, 0, 1, 0, 0), 1);
    }

    /** "Takes a block out of the text", with all that its words have. */
    private static void removedBlocks() {
        Galleyforge g = Check.paper(12);
        g.figure(0, 2);
        Check.add(g, Galleyforge.HEADING, "0");
        Check.add(g, Galleyforge.HEADING);
        Check.marked(g, 1, Galleyforge.NOTE, 3, "0");
        Check.marked(g, 1, Galleyforge.MENTION, 0, "0");
        Check.marked(g, 1, Galleyforge.LABEL, 1, "0");
        Check.marked(g, 1, Galleyforge.TERM, 4, "0");
        Check.add(g, Galleyforge.HEADING, "0");
        Check.pages("with it", g, 0, 3, 3, 6 + 4 + 2);
        Check.due("removed", g.remove(1), 2);
        Check.pages("without it", g, 0, 2, 0, 4);
        Check.due("its figure is nowhere", g.figureAt(0, 0), -1);
        Check.due("its label is nowhere", g.labelPage(0, 1), -1);
        Check.noIndex("its term is nowhere", () -> g.indexAt(0, 0));
        Check.due("the last one moves up", g.number(0, 1), 200);
        Check.noIndex("no third one", () -> g.remove(2));
        Check.due("the last one goes", g.remove(1), 1);
        Check.due("the first one goes", g.remove(0), 0);
        Check.noIndex("none is left", () -> g.remove(0));
        Check.due("no pages", g.pages(0), 0);
    }

    /** "Paragraphs, headings and columns have words, at most 12". */
    private static void twelveWords() {
        for (int kind = Galleyforge.PARAGRAPH; kind <= Galleyforge.COLUMNS; kind++) {
            Galleyforge g = new Galleyforge();
            g.block(0, kind);
            for (int k = 1; k <= 12; k++) {
                g.spell(0);
                Check.due("word " + k + " of kind " + kind, g.word(0, k - 1), k);
            }
            g.spell(0);
            Check.noState("the thirteenth ahead of all", () -> g.word(0, 0));
            Check.noState("the thirteenth behind all", () -> g.word(0, 12));
            Check.noState("a reference", () -> g.reference(0, 5, 0));
            Check.due("twelve", g.words(0), 12);
            Check.due("one goes", g.take(0, 11), 11);
            Check.due("one comes", g.word(0, 11), 12);
            Check.due("it has a row", g.whereIs(0, 0, 11) > 0 ? 1 : 0, 1);
        }
    }

    /** "at the places 0, 1 and so on in the block": a word moves those at its place and behind it. */
    private static void placesOfWords() {
        Galleyforge g = Check.paragraph(30);
        Check.pattern(g, "3", 0, 1);
        Check.words(g, 0, "3333");
        Check.spell(g, "0");
        Check.due("ahead of all", g.word(0, 0), 2);
        Check.spell(g, "33333");
        Check.due("behind all", g.word(0, 2), 3);
        Check.spell(g, "333333");
        Check.due("between", g.word(0, 1), 4);
        int[] gaps = {0, 28, 4, 12};
        for (int at = 0; at < 4; at++) {
            Check.due("gaps at " + at, g.gaps(0, at), gaps[at]);
        }
        g.spell(0);
        Check.noIndex("not behind the place behind all", () -> g.word(0, 5));
        Check.noIndex("not ahead of the first place", () -> g.word(0, -1));
        Check.due("one is taken", g.take(0, 1), 3);
        Check.due("the next one is there", g.gaps(0, 1), 4);
        Check.noIndex("the last place is gone", () -> g.take(0, 3));
    }

    /** Tables, page breaks, contents and indexes have no words. */
    private static void kindsWithoutWords() {
        Galleyforge g = new Galleyforge();
        for (int kind = Galleyforge.TABLE; kind <= Galleyforge.INDEX; kind++) {
            g.block(0, kind);
            Check.due("words of kind " + kind, g.words(0), 0);
            g.spell(0);
            Check.noState("a word", () -> g.word(0, 0));
            Check.noState("a reference", () -> g.reference(0, 0, 0));
            Check.noIndex("no word to take", () -> g.take(0, 0));
            Check.noIndex("no word to ask for", () -> g.gaps(0, 0));
            Check.due("the letter stays", g.unspell(), 1);
        }
    }

    /** The styles are "at first 0", the level 1, the variant NONE; "Returns what it was". */
    private static void stylesAtFirst() {
        Galleyforge g = new Galleyforge();
        int[] first = {0, 0, 0, 1, 0, 0, -1};
        int[] most = {2, 1, 1, 2, 30, 3, 1};
        for (int kind = 0; kind <= 6; kind++) {
            g.block(0, kind);
            for (int style = 0; style < 7; style++) {
                for (int value = first[style]; value <= most[style]; value++) {
                    int was = value > first[style] ? value - 1 : value;
                    Check.due("style " + style + " of kind " + kind, g.style(0, style, value), was);
                }
            }
            for (int style = 0; style < 7; style++) {
                Check.due("no other one was set", g.style(0, style, first[style]), most[style]);
            }
        }
    }

    /** "Sets a style of a block, whatever its kind": styles of another use change nothing that can be asked. */
    private static void stylesOfAnyKind() {
        int[] kinds = {Galleyforge.HEADING, Galleyforge.COLUMNS, Galleyforge.TABLE, Galleyforge.BREAK,
            Galleyforge.CONTENTS, Galleyforge.INDEX};
        for (int kind : kinds) {
            Galleyforge plain = withAll(kind);
            Galleyforge styled = withAll(kind);
            styled.style(1, Galleyforge.INDENT, 2);
            styled.style(1, Galleyforge.NUMBERED, 1);
            styled.style(1, Galleyforge.SIDE, 30);
            styled.style(1, Galleyforge.DEPTH, 3);
            if (kind != Galleyforge.HEADING) {
                styled.style(1, Galleyforge.LEVEL, 2);
            }
            Check.due("kind " + kind, Snapshot.asked(styled).equals(Snapshot.asked(plain)) ? 1 : 0, 1);
        }
        Galleyforge plain = withAll(Galleyforge.PARAGRAPH);
        Galleyforge styled = withAll(Galleyforge.PARAGRAPH);
        styled.style(1, Galleyforge.LEVEL, 2);
        Check.due("a paragraph", Snapshot.asked(styled).equals(Snapshot.asked(plain)) ? 1 : 0, 1);
    }

    private static Galleyforge withAll(int kind) {
        Galleyforge g = Check.paper(6);
        g.style(Check.add(g, Galleyforge.PARAGRAPH, "333333", "333"), Galleyforge.NUMBERED, 1);
        g.block(1, kind);
        for (int k = 0; k < 5 && kind <= Galleyforge.COLUMNS; k++) {
            Check.marked(g, 1, Galleyforge.TERM, k, "323");
        }
        if (kind == Galleyforge.TABLE) {
            g.cell(1, 0, 0, 1, 0, 45);
        }
        g.style(Check.add(g, Galleyforge.PARAGRAPH, "333333", "333"), Galleyforge.NUMBERED, 1);
        Check.marked(g, Check.add(g, Galleyforge.HEADING), Galleyforge.TERM, 7, "0");
        return g;
    }

    /** Columns that are numbered are no numbered paragraph, but another block between. */
    private static void stylesOfUseForOthers() {
        for (int kind = 1; kind <= 6; kind++) {
            Galleyforge g = numbered(0);
            g.block(1, kind);
            g.style(1, Galleyforge.NUMBERED, 1);
            g.style(1, Galleyforge.INDENT, 2);
            Check.add(g, Galleyforge.PARAGRAPH);
            g.style(2, Galleyforge.NUMBERED, 1);
            Check.due("kind " + kind + " has no such number", g.number(0, 1), kind == 1 ? 100 : 0);
            Check.due("kind " + kind + " is between", g.number(0, 2), 1);
        }
    }

    /** "those blocks are there which have no or this variant, and of their words those that have no or this variant". */
    private static void whatIsThere() {
        for (int block = -1; block <= 1; block++) {
            for (int word = -1; word <= 1; word++) {
                Galleyforge g = Check.paper(12);
                Check.add(g, Galleyforge.COLUMNS);
                g.style(0, Galleyforge.VARIANT, block);
                Check.marked(g, 0, Galleyforge.ONLY, word, "0");
                for (int variant = 0; variant < 2; variant++) {
                    boolean there = (block < 0 || block == variant) && (word < 0 || word == variant);
                    String what = "block " + block + ", word " + word + ", variant " + variant;
                    Check.due(what, g.whereIs(variant, 0, 0), there ? 1000 : -1);
                    Check.due(what, g.lines(variant, 0), there ? 1 : 0);
                    Check.due(what, g.pages(variant), there ? 1 : 0);
                }
                Check.due("words of all variants", g.words(0), 1);
            }
        }
    }

    /** A heading is there with those of its words that are there, if only with none. */
    private static void variantsOfWordsThatCount() {
        Galleyforge g = Check.paper(12);
        Check.add(g, Galleyforge.HEADING);
        g.mark(Galleyforge.NOTE, 5);
        g.mark(Galleyforge.LABEL, 0);
        Check.marked(g, 0, Galleyforge.ONLY, 1, "0");
        Check.pages("without the word", g, 0, 1, 0, 2);
        Check.due("with the word", g.on(1, 1, 2), 8);
        Check.due("the label", g.labelPage(1, 0), 1);
        Check.due("no label", g.labelPage(0, 0), -1);
        g.style(0, Galleyforge.VARIANT, 0);
        Check.due("the heading is not there", g.pages(1), 0);
        Check.due("nor its label", g.labelPage(1, 0), -1);
        g.style(0, Galleyforge.VARIANT, -1);
        Check.due("the heading is there again", g.labelPage(1, 0), 1);
    }

    private static Galleyforge headings(String levels) {
        Galleyforge g = new Galleyforge();
        for (int k = 0; k < levels.length(); k++) {
            Check.add(g, Galleyforge.HEADING);
            g.style(k, Galleyforge.LEVEL, levels.charAt(k) - '0');
        }
        return g;
    }

    private static void numbers(String what, Galleyforge g, int... due) {
        for (int k = 0; k < due.length; k++) {
            Check.due(what + ", block " + k, g.number(0, k), due[k]);
        }
    }

    /** "since the last one of the level 1 (since the beginning, without one), itself included". */
    private static void numbersOfHeadings() {
        numbers("one of the level 1", headings("1"), 100);
        numbers("one of the level 2", headings("2"), 1);
        numbers("none of the level 1", headings("222"), 1, 2, 3);
        numbers("the level 1 behind", headings("221"), 1, 2, 100);
        numbers("the level 1 ahead", headings("122"), 100, 101, 102);
        numbers("it begins anew", headings("1212122"), 100, 101, 200, 201, 300, 301, 302);
        numbers("it does not go on", headings("221221"), 1, 2, 100, 101, 102, 200);
        Galleyforge g = headings("122");
        g.block(2, Galleyforge.PARAGRAPH);
        g.block(3, Galleyforge.BREAK);
        numbers("other blocks do not count", g, 100, 101, 0, 0, 102);
        g.style(1, Galleyforge.LEVEL, 1);
        numbers("another level", g, 100, 200, 0, 0, 201);
        g.remove(0);
        numbers("one less", g, 100, 0, 0, 101);
    }

    private static void manyHeadings() {
        numbers("sixteen of the level 1", headings("1111111111111111"),
                100, 200, 300, 400, 500, 600, 700, 800, 900, 1000, 1100, 1200, 1300, 1400, 1500, 1600);
        numbers("sixteen of the level 2", headings("2222222222222222"),
                1, 2, 3, 4, 5, 6, 7, 8, 9, 10, 11, 12, 13, 14, 15, 16);
        Check.due("fifteen behind one", headings("1222222222222222").number(1, 15), 115);
        Check.due("one behind fifteen", headings("1111111111111112").number(1, 15), 1501);
    }

    /** "What follows is so for each of the two variants by itself". */
    private static void headingsOfVariants() {
        Galleyforge g = headings("12122");
        g.style(2, Galleyforge.VARIANT, 1);
        g.style(3, Galleyforge.VARIANT, 0);
        int[][] due = {{100, 101, -1, 102, 103}, {100, 101, 200, -1, 201}};
        for (int variant = 0; variant < 2; variant++) {
            for (int place = 0; place < 5; place++) {
                Check.due("variant " + variant + ", block " + place, g.number(variant, place), due[variant][place]);
            }
        }
        Galleyforge p = numbered(0, 0, 0);
        p.style(0, Galleyforge.VARIANT, 1);
        p.style(1, Galleyforge.NUMBERED, 0);
        p.style(1, Galleyforge.VARIANT, 0);
        Check.due("variant 0: another block between", p.number(0, 2), 1);
        Check.due("variant 1: it is not there", p.number(1, 2), 2);
        Check.due("variant 0: not there", p.number(0, 0), -1);
        Check.due("variant 1: not there", p.number(1, 1), -1);
    }

    private static Galleyforge numbered(int... indents) {
        Galleyforge g = new Galleyforge();
        for (int k = 0; k < indents.length; k++) {
            Check.add(g, Galleyforge.PARAGRAPH);
            g.style(k, Galleyforge.INDENT, indents[k]);
            g.style(k, Galleyforge.NUMBERED, 1);
        }
        return g;
    }

    /** "the numbered paragraph with the same indent that is the nearest one ahead of it"; "otherwise 1". */
    private static void numbersOfParagraphs() {
        numbers("the first one", numbered(2), 1);
        numbers("the same indent", numbered(1, 1, 1), 1, 2, 3);
        numbers("rising indents", numbered(0, 1, 2), 1, 1, 1);
        numbers("falling indents", numbered(2, 1, 0), 1, 1, 1);
        numbers("a greater indent between", numbered(0, 1, 0), 1, 1, 2);
        numbers("greater indents between", numbered(0, 1, 2, 2, 1, 0), 1, 1, 1, 2, 2, 2);
        numbers("a lesser indent between", numbered(1, 0, 1), 1, 1, 1);
        numbers("a greater and a lesser one between", numbered(1, 2, 0, 1), 1, 1, 1, 1);
        numbers("the greatest behind a lesser one", numbered(2, 1, 2, 0, 2), 1, 1, 1, 1, 1);
    }

    /** "if no other block is between them but numbered paragraphs with a greater indent". */
    private static void blocksBetween() {
        for (int kind = 0; kind <= 6; kind++) {
            Galleyforge g = numbered(0, 0, 0);
            g.block(1, kind);
            Check.due("kind " + kind + " between", g.number(0, 2), 1);
            Check.due("then it goes on", g.number(0, 3), 2);
            g.style(1, Galleyforge.VARIANT, 1);
            Check.due("kind " + kind + " that is not there", g.number(0, 2), 2);
            Check.due("in the other variant", g.number(1, 2), 1);
        }
        Galleyforge g = numbered(0, 2, 0);
        g.style(1, Galleyforge.NUMBERED, 0);
        numbers("a greater indent that is not numbered", g, 1, 0, 1);
    }

    private static void manyParagraphs() {
        Galleyforge g = numbered(0, 0, 0, 0, 0, 0, 0, 0, 0, 0, 0, 0, 0, 0, 0, 0);
        for (int place = 0; place < 16; place++) {
            Check.due("paragraph " + place, g.number(1, place), place + 1);
        }
    }

    /** "0 for another block; NONE if it is not there in the variant". */
    private static void numberedOrNot() {
        Galleyforge g = numbered(0);
        Check.due("numbered", g.number(0, 0), 1);
        g.style(0, Galleyforge.NUMBERED, 0);
        Check.due("not numbered", g.number(0, 0), 0);
        g.style(0, Galleyforge.VARIANT, 0);
        Check.due("not numbered and not there", g.number(1, 0), -1);
        Check.due("not numbered and there", g.number(0, 0), 0);
        for (int kind = Galleyforge.COLUMNS; kind <= Galleyforge.INDEX; kind++) {
            g.block(0, kind);
            Check.due("kind " + kind, g.number(0, 0), 0);
            g.style(0, Galleyforge.VARIANT, 1);
            Check.due("kind " + kind + " that is not there", g.number(0, 0), -1);
        }
    }

    /** Promise 13: kinds 0 and 1, heights 1 to 40, at most 5. */
    private static void fiveFigures() {
        Galleyforge g = new Galleyforge();
        Check.noIndex("none yet", () -> g.figureAt(0, 0));
        int[] heights = {1, 40, 1, 40, 20};
        for (int k = 0; k < 5; k++) {
            Check.due("figure " + k, g.figure(k % 2, heights[k]), k);
            Check.due("it is nowhere", g.figureAt(1, k), -1);
            int next = k + 1;
            Check.noIndex("no more", () -> g.figureAt(0, next));
        }
        Check.noState("a sixth one", () -> g.figure(1, 1));
        Check.noIndex("it is not there", () -> g.figureAt(0, 5));
    }

    /** "all terms have the key 0"; promise 15: 0 to 999. */
    private static void keysOfTerms() {
        Galleyforge g = new Galleyforge();
        for (int term = 0; term <= 7; term++) {
            Check.due("at first", g.key(term, 999 - term), 0);
        }
        for (int term = 0; term <= 7; term++) {
            Check.due("then", g.key(term, 0), 999 - term);
        }
        for (int term = 0; term <= 7; term++) {
            Check.due("0 again", g.key(term, 0), 0);
        }
    }

    /** "What is asked hangs on how the text, the figures, patterns, keys and the paper are now, and on nothing else." */
    private static void onNothingElse() {
        Galleyforge plain = new Galleyforge();
        Galleyforge detour = new Galleyforge();
        detour.paper(120, 40);
        Check.add(detour, Galleyforge.TABLE);
        Check.add(detour, Galleyforge.COLUMNS, "333333", "r4", "333333");
        detour.key(3, 999);
        detour.cost(0);
        detour.pages(1);
        detour.remove(0);
        for (int k = 0; k < 3; k++) {
            detour.take(0, 0);
        }
        detour.remove(0);
        detour.key(3, 0);
        detour.mark(Galleyforge.LABEL, 3);
        detour.mark(Galleyforge.LABEL, -1);
        detour.paper(60, 12);
        Check.due("all is gone", Snapshot.asked(detour).equals(Snapshot.asked(plain)) ? 1 : 0, 1);
        for (Galleyforge g : new Galleyforge[] {plain, detour}) {
            g.paper(30, 6);
            g.figure(1, 4);
            Check.add(g, Galleyforge.PARAGRAPH, "333333", "r3", "012", "333");
            Check.marked(g, 0, Galleyforge.MENTION, 0, "333333");
            Check.marked(g, Check.add(g, Galleyforge.HEADING), Galleyforge.LABEL, 3, "0");
            g.cell(Check.add(g, Galleyforge.TABLE), 1, 0, 2, 9, 99);
            if (g == detour) {
                g.style(0, Galleyforge.SIDE, 9);
                g.style(0, Galleyforge.DEPTH, 2);
                g.isSettled(1);
                g.style(0, Galleyforge.SIDE, 0);
                g.style(0, Galleyforge.DEPTH, 0);
                g.cell(2, 1, 0, 1, 0, 7);
                g.cell(2, 1, 0, 2, 9, 99);
            }
        }
        Check.due("the same text", Snapshot.asked(detour).equals(Snapshot.asked(plain)) ? 1 : 0, 1);
        Check.due("told alike", Snapshot.whole(detour).equals(Snapshot.whole(plain)) ? 1 : 0, 1);
    }
}
