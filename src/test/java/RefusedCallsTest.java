import java.lang.reflect.InvocationTargetException;
import java.lang.reflect.Method;
import java.util.ArrayList;
import java.util.List;

/**
 * "A call that throws an exception changes nothing. If several apply, the one that the throws clause names first is
 * thrown." Each parameter of each call is tried at both ends of what it may be, and beyond them, up to where numbers
 * wrap around; and each two of them together, and each of them in a state in which the call is refused anyhow.
 */
public final class RefusedCallsTest {
    interface Maker {
        Galleyforge make();
    }

    /** What a parameter may be, while the others are as told, and what is thrown otherwise: X, A, or S for a state. */
    private static final class Range {
        final int least;
        final int most;
        final char otherwise;

        Range(int least, int most, char otherwise) {
            this.least = least;
            this.most = most;
            this.otherwise = otherwise;
        }
    }

    public static void main(String[] args) throws Exception {
        told();
        asked();
        inRefusingStates();
        wordsOfKinds();
        askingChangesNothing();
        Check.end("RefusedCallsTest");
    }

    private static Range x(int least, int most) {
        return new Range(least, most, 'X');
    }

    private static Range a(int least, int most) {
        return new Range(least, most, 'A');
    }

    /** Blocks of all kinds, words of all kinds, two figures, two letters spelled, something drafted. */
    private static Galleyforge text() {
        Galleyforge g = new Galleyforge();
        g.paper(30, 6);
        g.figure(0, 2);
        g.figure(1, 3);
        Check.pattern(g, "3", 0, 1);
        int first = Check.add(g, Galleyforge.PARAGRAPH, "333333", "0");
        Check.marked(g, first, Galleyforge.NOTE, 2, "r2");
        Check.marked(g, Check.add(g, Galleyforge.HEADING), Galleyforge.LABEL, 2, "01");
        int columns = Check.add(g, Galleyforge.COLUMNS, "32", "32", "32");
        Check.marked(g, columns, Galleyforge.TERM, 7, "32");
        g.cell(Check.add(g, Galleyforge.TABLE), 1, 1, 1, 5, 40);
        Check.add(g, Galleyforge.BREAK);
        Check.add(g, Galleyforge.CONTENTS);
        Check.add(g, Galleyforge.INDEX);
        Check.add(g, Galleyforge.PARAGRAPH);
        Check.marked(g, columns, Galleyforge.MENTION, 1, "r0");
        Check.marked(g, columns, Galleyforge.TERM, 3, "32");
        g.key(3, 5);
        g.mark(Galleyforge.NOTE, 4);
        g.mark(Galleyforge.MENTION, 0);
        g.mark(Galleyforge.ONLY, 1);
        Check.spell(g, "01");
        return g;
    }

    private static void told() throws Exception {
        Maker m = RefusedCallsTest::text;
        calls(m, "spell", args(0), x(0, 3));
        calls(m, "mark", args(0, 1), x(0, 4), a(1, 5));
        calls(m, "mark", args(1, 1), x(0, 4), a(-1, 1));
        calls(m, "mark", args(2, 1), x(0, 4), a(-1, 5));
        calls(m, "mark", args(3, 1), x(0, 4), a(-1, 7));
        calls(m, "mark", args(4, 1), x(0, 4), a(-1, 1));
        calls(m, "pattern", args(0, 1), a(0, 2), a(1, 5));
        calls(m, "word", args(0, 0), x(0, 7), x(0, 3));
        calls(m, "reference", args(0, 0, 0), x(0, 7), x(0, 3), x(0, 5));
        calls(m, "take", args(0, 0), x(0, 2), x(0, 2));
        calls(m, "block", args(0, 0), x(0, 8), a(0, 6));
        calls(m, "remove", args(0), x(0, 7));
        int[] least = {0, 0, 0, 1, 0, 0, -1};
        int[] most = {2, 1, 1, 2, 30, 3, 1};
        for (int style = 0; style < 7; style++) {
            calls(m, "style", args(0, style, 1), x(0, 7), x(0, 6), a(least[style], most[style]));
        }
        calls(m, "cell", args(3, 1, 0, 1, 5, 60), x(0, 7), a(0, 3), a(0, 2), a(1, 3), a(0, 60), a(5, 200));
        calls(m, "cell", args(3, 0, 1, 2, 60, 60), x(0, 7), a(0, 3), a(0, 1), a(1, 2), a(0, 60), a(60, 200));
        calls(m, "cell", args(3, 3, 2, 1, 0, 0), x(0, 7), a(0, 3), a(0, 2), a(1, 1), a(0, 0), a(0, 200));
        calls(m, "figure", args(0, 1), a(0, 1), a(1, 40));
        calls(m, "paper", args(30, 6), a(30, 120), a(6, 40));
        calls(m, "key", args(0, 0), x(0, 7), a(0, 999));
    }

    private static void asked() throws Exception {
        Maker m = RefusedCallsTest::text;
        calls(m, "words", args(0), x(0, 7));
        calls(m, "gaps", args(0, 0), x(0, 2), x(0, 2));
        calls(m, "number", args(0, 0), x(0, 1), x(0, 7));
        calls(m, "columnWidth", args(3, 0), x(3, 3), x(0, 1));
        calls(m, "rowHeight", args(3, 0), x(3, 3), x(0, 1));
        calls(m, "lines", args(0, 0), x(0, 1), x(0, 7));
        calls(m, "lineEnd", args(0, 2, 0), x(0, 1), x(2, 2), x(0, 5));
        calls(m, "tightness", args(0, 2, 0), x(0, 1), x(2, 2), x(0, 5));
        calls(m, "demerits", args(0, 0), x(0, 1), x(0, 7));
        calls(m, "demeritsByAll", args(0, 0), x(0, 1), x(0, 7));
        for (String name : new String[] {"pages", "cost", "costAnew", "rounds", "isSettled"}) {
            calls(m, name, args(0), x(0, 1));
        }
        int pages = text().pages(0);
        int rows = text().on(0, 1, 0);
        calls(m, "on", args(0, 1, 0), x(0, 1), x(1, pages), x(0, 2));
        calls(m, "head", args(0, 1), x(0, 1), x(1, pages));
        calls(m, "textAt", args(0, 1, 0), x(0, 1), x(1, pages), x(0, rows - 1));
        calls(m, "whereIs", args(0, 0, 0), x(0, 1), x(0, 2), x(0, 2));
        calls(m, "figureAt", args(0, 0), x(0, 1), x(0, 1));
        calls(m, "labelPage", args(0, 0), x(0, 1), x(0, 5));
        calls(m, "contentsAt", args(0, 0), x(0, 1), x(0, 0));
        calls(m, "indexAt", args(0, 0), x(0, 1), x(0, 1));
        calls(m, "range", args(0, 7, 0), x(0, 1), x(7, 7), x(0, 0));
        calls(m, "range", args(0, 3, 0), x(0, 1), x(3, 3), x(0, 0));
    }

    private static void inRefusingStates() throws Exception {
        refused(() -> spelled(6), "spell", args(0), x(0, 3));
        refused(() -> spelled(0), "pattern", args(0, 1), a(0, 0), a(1, 5));
        for (int letters = 4; letters <= 6; letters++) {
            int n = letters;
            refused(() -> spelled(n), "pattern", args(0, 1), a(0, letters), a(1, 5));
        }
        refused(RefusedCallsTest::eightPatterns, "pattern", args(0, 1), a(0, 2), a(1, 5));
        refused(() -> spelled(0), "word", args(0, 0), x(0, 7), x(0, 3));
        refused(RefusedCallsTest::twelveWords, "word", args(0, 0), x(0, 7), x(0, 12));
        refused(RefusedCallsTest::twelveWords, "reference", args(0, 0, 0), x(0, 7), x(0, 12), x(0, 5));
        refused(RefusedCallsTest::sixteenBlocks, "block", args(0, 0), x(0, 16), a(0, 6));
        refused(RefusedCallsTest::fiveFigures, "figure", args(0, 1), a(0, 1), a(1, 40));
        for (int place = 0; place < 8; place++) {
            if (place != 3) {
                refused(RefusedCallsTest::text, "cell", args(place, 1, 0, 1, 5, 60),
                        x(0, 7), a(0, 3), a(0, 2), a(1, 3), a(0, 60), a(5, 200));
            }
        }
    }

    /** Tables, page breaks, contents and indexes have no words; nothing is there to be taken out, or to be asked. */
    private static void wordsOfKinds() throws Exception {
        for (int place = 3; place <= 6; place++) {
            refused(RefusedCallsTest::text, "word", args(place, 0), x(0, 7), x(0, 0));
            refused(RefusedCallsTest::text, "reference", args(place, 0, 0), x(0, 7), x(0, 0), x(0, 5));
            for (String name : new String[] {"take", "gaps"}) {
                wrong(RefusedCallsTest::text, name, args(place, 0), 'X');
            }
            wrong(RefusedCallsTest::text, "whereIs", args(0, place, 0), 'X');
            wrong(RefusedCallsTest::text, "lineEnd", args(0, place, 0), 'X');
            wrong(RefusedCallsTest::text, "tightness", args(0, place, 0), 'X');
        }
        for (int place = 0; place < 8; place++) {
            if (place != 3) {
                wrong(RefusedCallsTest::text, "columnWidth", args(place, 0), 'X');
                wrong(RefusedCallsTest::text, "rowHeight", args(place, 0), 'X');
            }
        }
        wrong(Galleyforge::new, "remove", args(0), 'X');
        wrong(Galleyforge::new, "on", args(0, 1, 0), 'X');
        wrong(Galleyforge::new, "head", args(1, 1), 'X');
        wrong(Galleyforge::new, "textAt", args(0, 1, 0), 'X');
        wrong(Galleyforge::new, "mark", args(1, 0), 'A');
    }

    private static Galleyforge spelled(int letters) {
        Galleyforge g = text();
        g.unspell();
        for (int k = 0; k < letters; k++) {
            g.spell(3);
        }
        return g;
    }

    private static Galleyforge eightPatterns() {
        Galleyforge g = spelled(0);
        for (int k = 1; k < 8; k++) {
            Check.pattern(g, "2", 0, 2);
        }
        Check.spell(g, "01");
        return g;
    }

    private static Galleyforge twelveWords() {
        Galleyforge g = text();
        for (int at = 3; at < 12; at++) {
            g.reference(0, at, 5);
        }
        g.mark(Galleyforge.TERM, 2);
        return g;
    }

    private static Galleyforge sixteenBlocks() {
        Galleyforge g = text();
        for (int place = 8; place < 16; place++) {
            g.block(place, place % 7);
        }
        return g;
    }

    private static Galleyforge fiveFigures() {
        Galleyforge g = text();
        for (int k = 2; k < 5; k++) {
            g.figure(k % 2, k);
        }
        return g;
    }

    /** "What is asked changes nothing": an object is asked all behind each call, another one only at the end. */
    private static void askingChangesNothing() {
        Galleyforge asked = new Galleyforge();
        Galleyforge other = new Galleyforge();
        for (int k = 0; k < 80; k++) {
            tell(asked, k);
            tell(other, k);
            String once = Snapshot.asked(asked);
            Check.due("asked again, call " + k, Snapshot.asked(asked).equals(once) ? 1 : 0, 1);
        }
        Check.due("asked and not asked", Snapshot.whole(asked).equals(Snapshot.whole(other)) ? 1 : 0, 1);
    }

    private static void tell(Galleyforge g, int k) {
        int[] kinds = {1, 0, 2, 3, 4, 0, 5, 6, 1};
        if (k < kinds.length) {
            g.block(k, kinds[k]);
        } else if (k % 8 == 1) {
            g.mark(k % 5, 1);
        } else if (k % 8 == 2 && k < 45) {
            g.figure(k % 3 % 2, 1 + k % 4);
        } else if (k % 8 == 5) {
            g.reference(k % 3, 0, k % 6);
        } else {
            g.spell(k % 4);
            if (k % 8 == 7) {
                g.word(5, 0);
            }
        }
        g.paper(30 + k % 9, 6 + k % 3);
    }

    // ---- how a call is tried

    private static int[] args(int... args) {
        return args;
    }

    private static int[] with(int[] args, int index, int value) {
        int[] other = args.clone();
        other[index] = value;
        return other;
    }

    private static List<Integer> outside(Range range) {
        List<Integer> values = new ArrayList<>();
        for (int step : new int[] {1, 32, 64, 256, 65536}) {
            values.add(range.least - step);
            values.add(range.most + step);
        }
        for (int wrapped : new int[] {range.least, range.most, 1, -1}) {
            values.add(wrapped ^ Integer.MIN_VALUE);
        }
        values.add(Integer.MIN_VALUE);
        values.add(Integer.MAX_VALUE);
        return values;
    }

    /** A call that is good as told, and at the ends of each range, and not beyond them. */
    private static void calls(Maker maker, String name, int[] args, Range... ranges) throws Exception {
        for (int k = 0; k < ranges.length; k++) {
            for (int value : new int[] {ranges[k].least, ranges[k].most}) {
                // a block that is there may still be no table
                if (!name.equals("cell") || k > 0) {
                    Object answer = call(maker.make(), name, with(args, k, value));
                    boolean given = !(answer instanceof RuntimeException);
                    Check.due(told(name, with(args, k, value)) + " answers " + answer, given ? 1 : 0, 1);
                }
            }
        }
        tryOutside(maker, name, args, ranges);
    }

    /** A call that is refused by the state of the object alone. */
    private static void refused(Maker maker, String name, int[] args, Range... ranges) throws Exception {
        wrong(maker, name, args, 'S');
        for (int k = 0; k < ranges.length; k++) {
            if (ranges[k].otherwise == 'A' || !name.equals("cell") && k > 0) {
                wrong(maker, name, with(args, k, ranges[k].least), 'S');
                wrong(maker, name, with(args, k, ranges[k].most), 'S');
            }
        }
        tryOutside(maker, name, args, ranges);
    }

    private static void tryOutside(Maker maker, String name, int[] args, Range... ranges) throws Exception {
        for (int k = 0; k < ranges.length; k++) {
            for (int value : outside(ranges[k])) {
                wrong(maker, name, with(args, k, value), ranges[k].otherwise);
            }
            for (int j = 0; j < k; j++) {
                boolean first = ranges[j].otherwise == 'X' || ranges[k].otherwise == 'X';
                int[] below = with(with(args, k, ranges[k].least - 1), j, ranges[j].least - 1);
                wrong(maker, name, below, first ? 'X' : 'A');
                int[] above = with(with(args, k, ranges[k].most + 1), j, ranges[j].most + 1);
                wrong(maker, name, above, first ? 'X' : 'A');
            }
        }
    }

    /** Throws what is due, by a throw of the class itself, and leaves the object as it was. */
    private static void wrong(Maker maker, String name, int[] args, char due) throws Exception {
        Class<?> want = due == 'X' ? IndexOutOfBoundsException.class
                : due == 'A' ? IllegalArgumentException.class : IllegalStateException.class;
        Galleyforge g = maker.make();
        Object answer = call(g, name, args);
        boolean right = answer.getClass() == want
                && ((RuntimeException) answer).getStackTrace()[0].getClassName().startsWith("Galleyforge");
        Check.due(told(name, args) + " answers " + answer + "; throws " + want.getName(), right ? 1 : 0, 1);
        boolean same = Snapshot.whole(g).equals(Snapshot.whole(maker.make()));
        Check.due(told(name, args) + " changes nothing", same ? 1 : 0, 1);
    }

    private static String told(String name, int[] args) {
        return name + java.util.Arrays.toString(args);
    }

    private static Object call(Galleyforge g, String name, int[] args) throws Exception {
        Class<?>[] types = new Class<?>[args.length];
        Object[] values = new Object[args.length];
        for (int k = 0; k < args.length; k++) {
            types[k] = int.class;
            values[k] = args[k];
        }
        Method method = Galleyforge.class.getMethod(name, types);
        try {
            return method.invoke(g, values);
        } catch (InvocationTargetException e) {
            return e.getCause();
        }
    }
}
