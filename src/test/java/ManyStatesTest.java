/** A text for which very many states of pages can be reached, not far from the most that a search found. */
public final class ManyStatesTest {
    /**
     * The blocks by their kinds and words: a digit is a reference with a note of so many lines, w makes it a wide word
     * instead, t gives it the next term, a to e a mention of a figure.
     */
    private static final String[] BLOCKS = {
        "P2w3c0w0t005w555t55", "Ht55t5555555555", "I", "H555555555e555", "H5t55555555555", "I", "I", "I",
        "Pt0w5t55b0w0a0w0d0w555", "H555555555555", "P555w0w0w0w0w05w55w5", "P5w55w0w0w0w0w05w55w5",
        "P5w55w0w0w0w0w05w55w5", "P5w55w0w0w0w0w05w555", "P5w55w0w0w0w0w05w555", "P5w55w0w0w0w0w0555"};
    private final Galleyforge one = new Galleyforge();
    private final NaiveGalley other = new NaiveGalley();
    private int calls;
    private int terms;

    public static void main(String[] args) {
        for (int height = 6; height <= 9; height++) {
            new ManyStatesTest().run(height);
        }
        Check.end("ManyStatesTest");
    }

    private void run(int height) {
        build(height);
        String what = "height " + height + ": ";
        Check.due(what + "calls, at most 512: " + calls, calls <= 512 ? 1 : 0, 1);
        Check.due(what + "pages", one.pages(0), other.pages(0));
        Check.due(what + "cost", one.cost(0), other.cost(0));
        for (int page = 1; page <= other.pages(0); page++) {
            for (int k = 0; k < 3; k++) {
                Check.due(what + "page " + page + " has " + k, one.on(0, page, k), other.on(0, page, k));
            }
        }
        for (int figure = 0; figure < 5; figure++) {
            Check.due(what + "figure " + figure, one.figureAt(0, figure), other.figureAt(0, figure));
        }
    }

    private void build(int height) {
        one.paper(30, height);
        other.paper(30, height);
        int[] kinds = {0, 1, 1, 0, 0};
        for (int kind : kinds) {
            one.figure(kind, 3);
            other.figure(kind, 3);
        }
        calls = 1 + kinds.length;
        for (int place = 0; place < BLOCKS.length; place++) {
            addBlock(place, BLOCKS[place]);
        }
    }

    private void addBlock(int place, String told) {
        int kind = told.charAt(0) == 'P' ? Galleyforge.PARAGRAPH : told.charAt(0) == 'H' ? Galleyforge.HEADING : Galleyforge.INDEX;
        one.block(place, kind);
        other.block(place, kind);
        calls++;
        if (kind == Galleyforge.PARAGRAPH) {
            one.style(place, Galleyforge.INDENT, 2);
            other.style(place, Galleyforge.INDENT, 2);
            calls++;
        }
        boolean wide = false;
        for (char sign : told.substring(1).toCharArray()) {
            if (sign == 'w') {
                wide = true;
            } else if (sign == 't') {
                mark(Galleyforge.TERM, terms++);
            } else if (sign >= 'a' && sign <= 'e') {
                mark(Galleyforge.MENTION, sign - 'a');
            } else {
                addWord(place, sign - '0', wide);
                wide = false;
            }
        }
    }

    private void addWord(int place, int lines, boolean wide) {
        if (lines > 0) {
            mark(Galleyforge.NOTE, lines);
        }
        for (int k = 0; wide && k < 4; k++) {
            one.spell(3);
            other.spell(3);
            calls++;
        }
        int at = one.words(place);
        if (wide) {
            one.word(place, at);
            other.word(place, at);
        } else {
            one.reference(place, at, 0);
            other.reference(place, at, 0);
        }
        calls++;
    }

    private void mark(int what, int value) {
        one.mark(what, value);
        other.mark(what, value);
        calls++;
    }
}
