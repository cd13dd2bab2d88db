/** What the tests share: answers and exceptions that are due, and short ways to build a text. */
final class Check {
    private static int made;
    private static int wrong;

    interface Call {
        long answer();
    }

    private Check() {
    }

    static void due(String what, long got, long want) {
        made++;
        if (got != want) {
            wrong++;
            System.out.println(what + " answered " + got + ", due is " + want);
        }
    }

    static void fails(String what, Class<? extends RuntimeException> want, Call call) {
        made++;
        try {
            long got = call.answer();
            wrong++;
            System.out.println(what + " answered " + got + ", due is " + want.getName());
        } catch (RuntimeException e) {
            if (e.getClass() != want || !isThrownByTheClass(e)) {
                wrong++;
                System.out.println(what + " threw " + e + " at " + e.getStackTrace()[0] + ", due is " + want.getName());
            }
        }
    }

    /** Neither the machine nor a list may throw: the class itself looks at what it is told. */
    private static boolean isThrownByTheClass(RuntimeException e) {
        return e.getStackTrace()[0].getClassName().startsWith("Galleyforge");
    }

    static void noIndex(String what, Call call) {
        fails(what, IndexOutOfBoundsException.class, call);
    }

    static void noArgument(String what, Call call) {
        fails(what, IllegalArgumentException.class, call);
    }

    static void noState(String what, Call call) {
        fails(what, IllegalStateException.class, call);
    }

    /** Tells how it went, and ends with 1 if something was wrong. */
    static void end(String name) {
        System.out.println(name + ": " + made + " checks, " + wrong + " wrong");
        if (wrong > 0) {
            System.exit(1);
        }
    }

    /** A paragraph on paper of this width; or, below 30, with a first line as narrow as that. */
    static Galleyforge paragraph(int width, String... words) {
        Galleyforge g = new Galleyforge();
        g.paper(width < 30 ? 30 : width, 12);
        add(g, Galleyforge.PARAGRAPH, words);
        g.style(0, Galleyforge.SIDE, width < 30 ? 30 - width : 0);
        g.style(0, Galleyforge.DEPTH, 1);
        return g;
    }

    /** The lines of block 0, told as their ends and their classes, one behind the other. */
    static void lines(String what, Galleyforge g, long demerits, int... endsAndClasses) {
        int count = endsAndClasses.length / 2;
        due(what + ": lines", g.lines(0, 0), count);
        for (int k = 0; k < count; k++) {
            due(what + ": end of line " + k, g.lineEnd(0, 0, k), endsAndClasses[2 * k]);
            due(what + ": class of line " + k, g.tightness(0, 0, k), endsAndClasses[2 * k + 1]);
        }
        due(what + ": demerits", g.demerits(0, 0), demerits);
        noIndex(what + ": no more lines", () -> g.lineEnd(0, 0, count));
        noIndex(what + ": no more classes", () -> g.tightness(0, 0, count));
    }

    /** The pages of variant 0, told as rows, lines of notes and what is used, one behind the other. */
    static void pages(String what, Galleyforge g, int cost, int... due) {
        due(what + ": pages", g.pages(0), due.length / 3);
        due(what + ": cost", g.cost(0), cost);
        due(what + ": cost anew", g.costAnew(0), cost);
        for (int k = 0; k < due.length; k++) {
            due(what + ": page " + (k / 3 + 1) + " has " + k % 3, g.on(0, k / 3 + 1, k % 3), due[k]);
        }
        noIndex(what + ": no more pages", () -> g.on(0, due.length / 3 + 1, 0));
    }

    /** Where the figures of variant 0 stand. */
    static void figures(String what, Galleyforge g, int... due) {
        for (int k = 0; k < due.length; k++) {
            due(what + ": figure " + k, g.figureAt(0, k), due[k]);
        }
    }

    /** A text on paper of the width 30. */
    static Galleyforge paper(int height) {
        Galleyforge g = new Galleyforge();
        g.paper(30, height);
        return g;
    }

    /** Puts a word behind those of a block, for which something is drafted. */
    static void marked(Galleyforge g, int place, int what, int value, String word) {
        g.mark(what, value);
        words(g, place, word);
    }

    static void spell(Galleyforge g, String letters) {
        for (int k = 0; k < letters.length(); k++) {
            g.spell(letters.charAt(k) - '0');
        }
    }

    static void pattern(Galleyforge g, String letters, int gap, int level) {
        spell(g, letters);
        g.pattern(gap, level);
    }

    /** Puts words behind those of a block; "r3" is a reference to the label 3. */
    static void words(Galleyforge g, int place, String... words) {
        for (String word : words) {
            if (word.charAt(0) == 'r') {
                g.reference(place, g.words(place), word.charAt(1) - '0');
            } else {
                spell(g, word);
                g.word(place, g.words(place));
            }
        }
    }

    /** Puts a block of this kind with these words behind all others; answers its place. */
    static int add(Galleyforge g, int kind, String... words) {
        int place = g.blocks();
        g.block(place, kind);
        words(g, place, words);
        return place;
    }

    /** Adds a table whose rows all have this height: on paper of the width 30, a best width of 30 for each line. */
    static int addTable(Galleyforge g, int rows, int height) {
        int place = add(g, Galleyforge.TABLE);
        for (int row = 0; row < rows; row++) {
            g.cell(place, row, 0, 1, 0, 30 * height > 200 ? 200 : 30 * height);
        }
        return place;
    }

    /** Adds a table with one row of any height: one column is 5 wide, the other one takes what there is. */
    static void addRow(Galleyforge g, int height) {
        int place = add(g, Galleyforge.TABLE);
        g.cell(place, 0, 0, 1, 5, 5 * height);
        g.cell(place, 0, 1, 1, 60, 60);
    }

    /** Adds a paragraph whose lines have one word each, for which this is drafted; NONE for nothing. */
    static int addMarked(Galleyforge g, int what, int... values) {
        int place = add(g, Galleyforge.PARAGRAPH);
        for (int value : values) {
            marked(g, place, what, value, "333333");
        }
        return place;
    }

    /** The same, kept together. */
    static int addKept(Galleyforge g, int what, int... values) {
        int place = addMarked(g, what, values);
        g.style(place, Galleyforge.KEEP, 1);
        return place;
    }

    /** A paragraph in which each of the words fills a line of its own, on paper of the width 30. */
    static int addLines(Galleyforge g, int lines) {
        int place = add(g, Galleyforge.PARAGRAPH);
        for (int k = 0; k < lines; k++) {
            words(g, place, "333333");
        }
        return place;
    }
}
