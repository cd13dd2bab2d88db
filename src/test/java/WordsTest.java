/** Promises 1 to 8: a new object, spelling, drafts, patterns, words. */
public final class WordsTest {
    public static void main(String[] args) {
        newObject();
        spell();
        unspell();
        mark();
        draftsBelongToTheNextWord();
        pattern();
        word();
        reference();
        take();
        Check.end("WordsTest");
    }

    private static void newObject() {
        Galleyforge g = new Galleyforge();
        Check.due("1 blocks", g.blocks(), 0);
        Check.due("1 pages", g.pages(0) + g.pages(1), 0);
        Check.due("1 rounds", g.rounds(0), 1);
        Check.noIndex("1 figure", () -> g.figureAt(0, 0));
        for (int term = 0; term < 8; term++) {
            Check.due("1 key " + term, g.key(term, 7), 0);
        }
        for (int what = 0; what < 5; what++) {
            Check.due("1 drafted " + what, g.mark(what, -1), -1);
        }
        Check.due("1 spelled", g.unspell(), 0);
        Check.due("1 paper", g.paper(30, 6), 60);
        Check.add(g, Galleyforge.PARAGRAPH, "333333");
        Check.due("1 no patterns", g.gaps(0, 0), 0);
        g.spell(0);
        Check.due("1 first pattern", g.pattern(0, 1), 1);
    }

    private static void spell() {
        Galleyforge g = new Galleyforge();
        for (int k = 0; k < 6; k++) {
            Check.due("2 spell", g.spell(k % 4), k + 1);
        }
        Check.noState("2 seventh letter", () -> g.spell(0));
        Check.noIndex("2 no such letter, seventh", () -> g.spell(4));
        Check.due("2 nothing changed", g.unspell(), 6);
        Check.noIndex("2 letter -1", () -> g.spell(-1));
        Check.noIndex("2 letter 4", () -> g.spell(4));
        Check.noIndex("2 letter max", () -> g.spell(Integer.MAX_VALUE));
        Check.noIndex("2 letter min", () -> g.spell(Integer.MIN_VALUE));
        Check.due("2 letter 3", g.spell(3), 1);
    }

    private static void unspell() {
        Galleyforge g = new Galleyforge();
        Check.spell(g, "01");
        Check.due("3 unspell", g.unspell(), 2);
        Check.due("3 unspell again", g.unspell(), 0);
        Check.due("3 spell behind", g.spell(2), 1);
    }

    private static void mark() {
        Galleyforge g = new Galleyforge();
        int[] least = {1, 0, 0, 0, 0};
        int[] most = {5, 1, 5, 7, 1};
        Check.noArgument("4 no figure yet", () -> g.mark(1, 0));
        g.figure(0, 1);
        g.figure(1, 1);
        for (int what = 0; what < 5; what++) {
            int w = what;
            Check.due("4 least", g.mark(what, least[what]), -1);
            Check.due("4 most", g.mark(what, most[what]), least[what]);
            Check.noArgument("4 below least " + what, () -> g.mark(w, what(w)));
            Check.noArgument("4 above most " + what, () -> g.mark(w, most[w] + 1));
            Check.noArgument("4 max " + what, () -> g.mark(w, Integer.MAX_VALUE));
            Check.noArgument("4 min " + what, () -> g.mark(w, Integer.MIN_VALUE));
            Check.due("4 none", g.mark(what, -1), most[what]);
            Check.due("4 none again", g.mark(what, -1), -1);
        }
        Check.noIndex("4 what -1", () -> g.mark(-1, 0));
        Check.noIndex("4 what 5", () -> g.mark(5, 0));
        Check.noIndex("4 what 5, value wrong", () -> g.mark(5, -2));
    }

    private static int what(int what) {
        return what == 0 ? 0 : -2;
    }

    private static void draftsBelongToTheNextWord() {
        Galleyforge g = new Galleyforge();
        g.block(0, Galleyforge.HEADING);
        g.mark(Galleyforge.NOTE, 3);
        g.mark(Galleyforge.LABEL, 2);
        Check.noState("4 nothing spelled", () -> g.word(0, 0));
        Check.due("4 draft stays", g.mark(Galleyforge.NOTE, 4), 3);
        Check.spell(g, "0");
        g.unspell();
        Check.words(g, 0, "00");
        Check.due("4 draft used", g.mark(Galleyforge.NOTE, -1), -1);
        Check.due("4 label used", g.mark(Galleyforge.LABEL, 5), -1);
        Check.due("4 note of the word", g.on(0, 1, 1), 4);
        Check.due("4 label of the word", g.labelPage(0, 2), 1);
        Check.due("4 label not put in yet", g.labelPage(0, 5), -1);
        g.reference(0, 1, 0);
        Check.due("4 label of the reference", g.labelPage(0, 5), 1);
        Check.due("4 draft used by the reference", g.mark(Galleyforge.LABEL, -1), -1);
        Check.words(g, 0, "00");
        Check.due("4 no note of the next word", g.on(0, 1, 1), 4);
    }

    private static void pattern() {
        Galleyforge g = new Galleyforge();
        Check.noState("5 no letters", () -> g.pattern(0, 1));
        Check.noArgument("5 no letters, gap 1", () -> g.pattern(1, 1));
        Check.spell(g, "012");
        Check.noArgument("5 gap -1", () -> g.pattern(-1, 1));
        Check.noArgument("5 gap 4", () -> g.pattern(4, 1));
        Check.noArgument("5 level 0", () -> g.pattern(0, 0));
        Check.noArgument("5 level 6", () -> g.pattern(0, 6));
        Check.due("5 gap 3", g.pattern(3, 5), 1);
        Check.due("5 text is empty then", g.unspell(), 0);
        Check.spell(g, "0123");
        Check.noState("5 four letters", () -> g.pattern(4, 1));
        Check.noArgument("5 four letters, gap 5", () -> g.pattern(5, 1));
        Check.due("5 text stays", g.unspell(), 4);
        for (int k = 2; k <= 8; k++) {
            g.spell(0);
            Check.due("5 pattern", g.pattern(1, 1), k);
        }
        g.spell(0);
        Check.noArgument("5 ninth, level 6", () -> g.pattern(1, 6));
        Check.noState("5 ninth", () -> g.pattern(1, 1));
        Check.due("5 text of the ninth stays", g.unspell(), 1);
    }

    private static void word() {
        Galleyforge g = new Galleyforge();
        Check.noIndex("6 no block", () -> g.word(0, 0));
        g.block(0, Galleyforge.PARAGRAPH);
        Check.noState("6 nothing spelled", () -> g.word(0, 0));
        Check.noIndex("6 place 1, nothing spelled", () -> g.word(0, 1));
        Check.spell(g, "33");
        Check.noIndex("6 place -1", () -> g.word(0, -1));
        Check.noIndex("6 block -1", () -> g.word(-1, 0));
        Check.noIndex("6 block 1", () -> g.word(1, 0));
        Check.due("6 first word", g.word(0, 0), 1);
        Check.due("6 text is empty then", g.unspell(), 0);
        Check.spell(g, "333333");
        Check.due("6 word ahead of it", g.word(0, 0), 2);
        Check.pattern(g, "3", 0, 1);
        Check.due("6 the word of six letters is the first one", g.gaps(0, 0), 4 + 8 + 16);
        Check.due("6 the word of two letters is the second one", g.gaps(0, 1), 0);
        for (int k = 2; k < 12; k++) {
            Check.words(g, 0, "0");
        }
        g.spell(0);
        Check.noState("6 thirteenth word", () -> g.word(0, 12));
        Check.noIndex("6 place 13", () -> g.word(0, 13));
        Check.due("6 text stays", g.unspell(), 1);
        Check.due("6 twelve words", g.words(0), 12);
        for (int kind = 0; kind <= 6; kind++) {
            g.block(1, kind);
            g.spell(0);
            if (kind <= Galleyforge.COLUMNS) {
                Check.due("6 kind " + kind, g.word(1, 0), 1);
            } else {
                Check.noState("6 kind " + kind, () -> g.word(1, 0));
                Check.noIndex("6 place 1 of kind " + kind, () -> g.word(1, 1));
                g.unspell();
            }
        }
    }

    private static void reference() {
        Galleyforge g = new Galleyforge();
        Check.noIndex("7 no block", () -> g.reference(0, 0, 0));
        g.block(0, Galleyforge.COLUMNS);
        Check.noIndex("7 place 1", () -> g.reference(0, 1, 0));
        Check.noIndex("7 place -1", () -> g.reference(0, -1, 0));
        Check.noIndex("7 label -1", () -> g.reference(0, 0, -1));
        Check.noIndex("7 label 6", () -> g.reference(0, 0, 6));
        Check.spell(g, "0123");
        Check.due("7 reference", g.reference(0, 0, 5), 1);
        Check.due("7 spelled text stays", g.unspell(), 4);
        Check.pattern(g, "0", 0, 1);
        Check.due("7 no gaps", g.gaps(0, 0), 0);
        for (int k = 1; k < 12; k++) {
            g.reference(0, k, 0);
        }
        Check.noState("7 thirteenth", () -> g.reference(0, 0, 0));
        Check.noIndex("7 thirteenth, label 6", () -> g.reference(0, 0, 6));
        g.block(0, Galleyforge.TABLE);
        Check.noState("7 table", () -> g.reference(0, 0, 0));
        Check.noIndex("7 table, label 6", () -> g.reference(0, 0, 6));
        Check.noIndex("7 table, place 1", () -> g.reference(0, 1, 0));
    }

    private static void take() {
        Galleyforge g = new Galleyforge();
        Check.noIndex("8 no block", () -> g.take(0, 0));
        Check.add(g, Galleyforge.PARAGRAPH, "0", "333333", "1");
        Check.pattern(g, "3", 0, 3);
        Check.noIndex("8 word 3", () -> g.take(0, 3));
        Check.noIndex("8 word -1", () -> g.take(0, -1));
        Check.noIndex("8 block -1", () -> g.take(-1, 0));
        Check.due("8 take", g.take(0, 0), 2);
        Check.due("8 the others stay", g.gaps(0, 0), 28);
        Check.due("8 take the last one", g.take(0, 1), 1);
        Check.due("8 take all", g.take(0, 0), 0);
        Check.noIndex("8 none left", () -> g.take(0, 0));
    }
}
