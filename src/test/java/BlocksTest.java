/** Promises 9 to 15: blocks, styles, cells, figures, the paper, keys. */
public final class BlocksTest {
    public static void main(String[] args) {
        block();
        remove();
        style();
        cell();
        figure();
        paper();
        key();
        Check.end("BlocksTest");
    }

    private static void block() {
        Galleyforge g = new Galleyforge();
        Check.noIndex("9 place 1 of none", () -> g.block(1, 0));
        Check.noIndex("9 place -1", () -> g.block(-1, 0));
        Check.noIndex("9 place 1, kind 7", () -> g.block(1, 7));
        Check.noArgument("9 kind 7", () -> g.block(0, 7));
        Check.noArgument("9 kind -1", () -> g.block(0, -1));
        for (int kind = 0; kind <= 6; kind++) {
            Check.due("9 block", g.block(0, kind), kind + 1);
        }
        Check.words(g, 6, "0", "1");
        Check.due("9 into the midst", g.block(6, Galleyforge.HEADING), 8);
        Check.due("9 the paragraph moves on", g.words(7), 2);
        Check.due("9 the new one is empty", g.words(6), 0);
        Check.due("9 the new one has the first styles", g.style(6, Galleyforge.LEVEL, 2), 1);
        for (int k = 9; k <= 16; k++) {
            g.block(0, 0);
        }
        Check.noState("9 seventeenth", () -> g.block(16, 0));
        Check.noArgument("9 seventeenth, kind 7", () -> g.block(16, 7));
        Check.noIndex("9 place 17", () -> g.block(17, 0));
        Check.due("9 sixteen", g.blocks(), 16);
    }

    private static void remove() {
        Galleyforge g = new Galleyforge();
        Check.noIndex("10 none", () -> g.remove(0));
        Check.add(g, Galleyforge.HEADING);
        Check.add(g, Galleyforge.HEADING, "0");
        Check.add(g, Galleyforge.PARAGRAPH, "0", "0");
        Check.noIndex("10 place 3", () -> g.remove(3));
        Check.noIndex("10 place -1", () -> g.remove(-1));
        Check.due("10 remove", g.remove(1), 2);
        Check.due("10 the next one moves up", g.words(1), 2);
        Check.due("10 rows are gone", g.on(0, 1, 2), 3);
        Check.due("10 remove", g.remove(0), 1);
        Check.due("10 remove", g.remove(0), 0);
        Check.due("10 no pages", g.pages(0), 0);
    }

    private static void style() {
        Galleyforge g = new Galleyforge();
        Check.noIndex("11 no block", () -> g.style(0, 0, 0));
        int[] first = {0, 0, 0, 1, 0, 0, -1};
        int[] least = {0, 0, 0, 1, 0, 0, -1};
        int[] most = {2, 1, 1, 2, 30, 3, 1};
        for (int kind = 0; kind <= 6; kind++) {
            g.block(0, kind);
            for (int style = 0; style < 7; style++) {
                int s = style;
                Check.noArgument("11 below least " + style, () -> g.style(0, s, least[s] - 1));
                Check.noArgument("11 above most " + style, () -> g.style(0, s, most[s] + 1));
                Check.due("11 at first " + style, g.style(0, style, most[style]), first[style]);
                Check.due("11 most " + style, g.style(0, style, least[style]), most[style]);
                Check.due("11 least " + style, g.style(0, style, first[style]), least[style]);
            }
        }
        Check.noIndex("11 style 7", () -> g.style(0, 7, 0));
        Check.noIndex("11 style -1", () -> g.style(0, -1, 0));
        Check.noIndex("11 style 7, value wrong", () -> g.style(0, 7, 99));
        Check.noIndex("11 block 7, value wrong", () -> g.style(7, 0, 99));
        Check.noIndex("11 block -1", () -> g.style(-1, 0, 0));
    }

    private static void cell() {
        Galleyforge g = new Galleyforge();
        Check.noIndex("12 no block", () -> g.cell(0, 0, 0, 1, 0, 0));
        Check.noIndex("12 no block, row 4", () -> g.cell(0, 4, 0, 1, 0, 0));
        g.block(0, Galleyforge.TABLE);
        Check.due("12 first row", g.cell(0, 0, 0, 1, 0, 0), 1);
        Check.due("12 third row", g.cell(0, 2, 0, 1, 60, 60), 3);
        Check.due("12 second row", g.cell(0, 1, 2, 1, 0, 200), 3);
        Check.due("12 the same row again", g.cell(0, 2, 0, 3, 0, 0), 3);
        Check.due("12 fourth row", g.cell(0, 3, 1, 2, 0, 0), 4);
        int[][] wrong = {{-1, 0, 1, 0, 0}, {4, 0, 1, 0, 0}, {0, -1, 1, 0, 0}, {0, 3, 1, 0, 0}, {0, 0, 0, 0, 0}, {0, 0, 4, 0, 0},
            {0, 1, 3, 0, 0}, {0, 2, 2, 0, 0}, {0, 0, 1, -1, 0}, {0, 0, 1, 61, 61}, {0, 0, 1, 5, 4}, {0, 0, 1, 5, 201},
            {0, 2, Integer.MAX_VALUE, 0, 0}, {0, Integer.MAX_VALUE, 1, 0, 0}, {0, 0, Integer.MIN_VALUE, 0, 0}};
        for (int[] w : wrong) {
            Check.noArgument("12 wrong", () -> g.cell(0, w[0], w[1], w[2], w[3], w[4]));
        }
        for (int kind = 0; kind <= 6; kind++) {
            g.block(0, kind);
            if (kind != Galleyforge.TABLE) {
                Check.noState("12 kind " + kind, () -> g.cell(0, 0, 0, 1, 0, 0));
                Check.noArgument("12 row 4, kind " + kind, () -> g.cell(0, 4, 0, 1, 0, 0));
            }
        }
    }

    private static void figure() {
        Galleyforge g = new Galleyforge();
        Check.noArgument("13 kind -1", () -> g.figure(-1, 1));
        Check.noArgument("13 kind 2", () -> g.figure(2, 1));
        Check.noArgument("13 height 0", () -> g.figure(0, 0));
        Check.noArgument("13 height 41", () -> g.figure(0, 41));
        for (int k = 0; k < 5; k++) {
            Check.due("13 figure", g.figure(k % 2, k == 4 ? 40 : k + 1), k);
        }
        Check.noState("13 sixth", () -> g.figure(0, 1));
        Check.noArgument("13 sixth, height 41", () -> g.figure(0, 41));
        Check.due("13 it is nowhere", g.figureAt(0, 4), -1);
        Check.noIndex("13 five of them", () -> g.figureAt(0, 5));
    }

    private static void paper() {
        Galleyforge g = new Galleyforge();
        Check.noArgument("14 width 29", () -> g.paper(29, 6));
        Check.noArgument("14 width 121", () -> g.paper(121, 6));
        Check.noArgument("14 height 5", () -> g.paper(30, 5));
        Check.noArgument("14 height 41", () -> g.paper(30, 41));
        Check.due("14 first width", g.paper(30, 6), 60);
        Check.due("14 width 30", g.paper(120, 40), 30);
        Check.due("14 width 120", g.paper(30, 6), 120);
        Check.addLines(g, 7);
        Check.due("14 the height is 6", g.pages(0), 2);
        g.paper(30, 7);
        Check.due("14 the height is 7", g.pages(0), 1);
        g.paper(120, 7);
        Check.due("14 the width is 120", g.lines(0, 0), 3);
    }

    private static void key() {
        Galleyforge g = new Galleyforge();
        Check.noIndex("15 term -1", () -> g.key(-1, 0));
        Check.noIndex("15 term 8", () -> g.key(8, 0));
        Check.noIndex("15 term 8, key 1000", () -> g.key(8, 1000));
        Check.noArgument("15 key -1", () -> g.key(0, -1));
        Check.noArgument("15 key 1000", () -> g.key(7, 1000));
        Check.due("15 key", g.key(7, 999), 0);
        Check.due("15 key", g.key(7, 0), 999);
        Check.due("15 another term", g.key(0, 1), 0);
    }
}
