/** What the tests share: answers and exceptions that are due, and short ways to build a text. */
final class Check {
    private static int made;
    private static int wrong;

    interface Call {
        long answer();
    }

    private Check() {
    }

    static void due(String what, long got, long want) {
        made++;
        if (got != want) {
            wrong++;
            System.out.println(what + " answered " + got + ", due is " + want);
        }
    }

    static void fails(String what, Class<? extends RuntimeException> want, Call call) {
        made++;
        try {
            long got = call.answer();
            wrong++;
            System.out.println(what + " answered " + got + ", due is " + want.getName());
        } catch (RuntimeException e) {
            if (e.getClass() != want) {
                wrong++;
                System.out.println(what + " threw " + e + ", due is " + want.getName());
            }
        }
    }

    static void noIndex(String what, Call call) {
        fails(what, IndexOutOfBoundsException.class, call);
    }

    static void noArgument(String what, Call call) {
        fails(what, IllegalArgumentException.class, call);
    }

    static void noState(String what, Call call) {
        fails(what, IllegalStateException.class, call);
    }

    /** Tells how it went, and ends with 1 if something was wrong. */
    static void end(String name) {
        System.out.println(name + ": " + made + " checks, " + wrong + " wrong");
        if (wrong > 0) {
            System.exit(1);
        }
    }

    static void spell(Galleyforge g, String letters) {
        for (int k = 0; k < letters.length(); k++) {
            g.spell(letters.charAt(k) - '0');
        }
    }

    static void pattern(Galleyforge g, String letters, int gap, int level) {
        spell(g, letters);
        g.pattern(gap, level);
    }

    /** Puts words behind those of a block; "r3" is a reference to the label 3. */
    static void words(Galleyforge g, int place, String... words) {
        for (String word : words) {
            if (word.charAt(0) == 'r') {
                g.reference(place, g.words(place), word.charAt(1) - '0');
            } else {
                spell(g, word);
                g.word(place, g.words(place));
            }
        }
    }

    /** Puts a block of this kind with these words behind all others; answers its place. */
    static int add(Galleyforge g, int kind, String... words) {
        int place = g.blocks();
        g.block(place, kind);
        words(g, place, words);
        return place;
    }

    /** Adds a table whose rows all have this height: on paper of the width 30, a best width of 30 for each line. */
    static int addTable(Galleyforge g, int rows, int height) {
        int place = add(g, Galleyforge.TABLE);
        for (int row = 0; row < rows; row++) {
            g.cell(place, row, 0, 1, 0, 30 * height > 200 ? 200 : 30 * height);
        }
        return place;
    }

    /** A paragraph in which each of the words fills a line of its own, on paper of the width 30. */
    static int addLines(Galleyforge g, int lines) {
        int place = add(g, Galleyforge.PARAGRAPH);
        for (int k = 0; k < lines; k++) {
            words(g, place, "333333");
        }
        return place;
    }
}
