import java.lang.reflect.InvocationTargetException;
import java.lang.reflect.Method;
import java.util.ArrayList;
import java.util.Arrays;
import java.util.HashMap;
import java.util.List;
import java.util.Map;
import java.util.Random;

/** Random runs of calls on a Galleyforge and on a NaiveGalley, which must answer alike. */
public final class RandomRunsTest {
    private static final Map<String, Method[]> METHODS = new HashMap<>();
    private final List<String> calls = new ArrayList<>();
    private final Random random;
    private final Galleyforge one = new Galleyforge();
    private final NaiveGalley other = new NaiveGalley();
    private int left = 512;
    private int mood;

    private RandomRunsTest(long seed) {
        // the first numbers of neighbouring seeds are alike otherwise
        random = new Random(seed * 0x9E3779B97F4A7C15L);
    }

    public static void main(String[] args) throws Exception {
        for (Method m : Galleyforge.class.getDeclaredMethods()) {
            if (java.lang.reflect.Modifier.isPublic(m.getModifiers())) {
                METHODS.put(m.getName(), new Method[] {m, NaiveGalley.class.getMethod(m.getName(), m.getParameterTypes())});
            }
        }
        if (METHODS.size() != 39) throw new AssertionError("39 methods are due, there are " + METHODS.size());
        long first = args.length > 0 ? Long.parseLong(args[0]) : 1500;
        long count = args.length > 1 ? Long.parseLong(args[1]) : 1500;
        int wrong = 0;
        int[] seen = new int[8];
        for (long seed = first; seed < first + count && wrong < 5; seed++) {
            RandomRunsTest run = new RandomRunsTest(seed);
            String fault = run.run(seed % 50 == 0);
            if (fault != null) {
                wrong++;
                System.out.println("seed " + seed + ": " + fault);
                for (String call : run.calls) System.out.println("    " + call);
            }
            run.count(seen);
        }
        System.out.println("random runs: " + count + ", with more than one page " + seen[0] + ", ten " + seen[1]
                + ", several rounds " + seen[2] + ", not settled " + seen[3] + ", figures alone " + seen[4]
                + ", notes left " + seen[5] + ", wrong " + wrong);
        if (wrong > 0) System.exit(1);
    }

    private void count(int[] seen) {
        for (int variant = 0; variant < 2; variant++) {
            if (other.pages(variant) > 1) seen[0]++;
            if (other.pages(variant) > 9) seen[1]++;
            if (other.rounds(variant) > 1) seen[2]++;
            if (!other.isSettled(variant)) seen[3]++;
            for (NaiveGalley.Page page : other.made(variant).way.pages) {
                if (page.rows == 0 && page.notes == 0) seen[4]++;
                if (page.leftNext > 0) seen[5]++;
            }
        }
    }

    private static Object answer(Object target, Method method, Object[] args) throws IllegalAccessException {
        try {
            return method.invoke(target, args);
        } catch (InvocationTargetException e) {
            return e.getCause().getClass().getName();
        }
    }

    /** Calls both; a fault, if they differ. */
    private String call(String name, int... args) throws Exception {
        Object[] boxed = Arrays.stream(args).boxed().toArray();
        Method[] methods = METHODS.get(name);
        Object due = answer(other, methods[1], boxed);
        Object got = answer(one, methods[0], boxed);
        calls.add(name + Arrays.toString(args) + " -> " + due);
        left--;
        if (!due.equals(got)) return name + Arrays.toString(args) + " answered " + got + ", due is " + due;
        return null;
    }

    private int upTo(int bound) {
        return random.nextInt(bound);
    }

    private String run(boolean full) throws Exception {
        mood = upTo(8);
        if (full) {
            String fault = fullText();
            return fault == null ? checkAll() : fault;
        }
        if (mood == 7 && upTo(2) == 0) {
            String fault = aboutTenPages();
            return fault == null ? checkAll() : fault;
        }
        String fault = null;
        if (upTo(4) > 0) fault = call("paper", 30 + upTo(upTo(2) == 0 ? 10 : 91), 6 + upTo(upTo(3) > 0 ? 5 : 35));
        for (int k = upTo(6); k > 0 && fault == null; k--) fault = call("figure", upTo(2), 1 + upTo(upTo(3) == 0 ? 40 : 6));
        for (int k = upTo(9); k > 0 && fault == null; k--) {
            int n = 1 + upTo(2);
            for (int s = 0; s < n && fault == null; s++) fault = call("spell", upTo(4));
            if (fault == null) fault = call("pattern", upTo(n + 1), 1 + upTo(5));
        }
        int most = 60 + upTo(380);
        while (left > 512 - most && fault == null) {
            fault = upTo(100) < 4 ? checkAll() : change();
        }
        return fault == null ? checkAll() : fault;
    }

    /** As much text as can be told: notes on low paper, many rows, words with all gaps. */
    private String fullText() throws Exception {
        String fault = call("paper", 30, 6 + upTo(upTo(3) == 0 ? 10 : 3));
        if (fault == null) fault = call("spell", 3);
        if (fault == null) fault = call("pattern", 0, 1);
        for (int f = 0; f < 5 && fault == null; f++) fault = call("figure", upTo(2), 1 + upTo(upTo(4) == 0 ? 40 : 5));
        int headings = 1 + upTo(6);
        int mentioned = 0;
        for (int place = 0; place < 16 && fault == null && left > 20; place++) {
            int kind = place < headings ? 1 : upTo(8) == 0 ? 5 : upTo(8) == 0 ? 3 : upTo(8) == 0 ? 2 : 0;
            fault = call("block", place, kind);
            if (fault == null) fault = kind == 3 ? call("cell", place, 3, 0, 1, 0, upTo(200)) : call("style", place, 0, 2);
            int letters = upTo(3) == 0 ? 6 : 2;
            for (int at = 0; at < 12 && kind < 3 && fault == null && left > 20; at++) {
                if (kind == 1 || upTo(12) == 0) fault = call("mark", 0, 5);
                if (fault == null && upTo(10) == 0 && mentioned < 5) fault = call("mark", 1, mentioned++);
                if (fault == null && upTo(20) == 0) fault = call("mark", 2, upTo(6));
                for (int k = 0; k < letters && kind != 1 && fault == null; k++) fault = call("spell", 3);
                if (fault == null) fault = kind == 1 ? call("reference", place, at, upTo(6)) : call("word", place, at);
            }
        }
        return fault;
    }

    /** Pages up to the eighth or so, and then labels whose pages hang on the digits of references. */
    private String aboutTenPages() throws Exception {
        int height = 6 + upTo(5);
        String fault = call("paper", 30, height);
        int figures = upTo(6);
        for (int f = 0; f < figures && fault == null; f++) fault = call("figure", upTo(2), 1 + upTo(height));
        int left = 5 + upTo(4);
        for (int place = 0; place < 2 && fault == null; place++) {
            fault = call("block", place, 3);
            for (int row = 0; row < 4 && left > 0 && fault == null; row++, left--) {
                fault = call("cell", place, row, 0, 1, 0, 180);
            }
        }
        if (fault == null && height > 6) fault = call("block", 2, 4);
        for (int place = blocks(); place < 12 && fault == null; place++) {
            int kind = upTo(5) == 0 ? 1 : upTo(5) == 0 ? 2 : upTo(6) == 0 ? 4 : 0;
            fault = call("block", place, kind);
            if (fault == null && upTo(3) == 0) fault = call("style", place, 2, 1);
            for (int words = upTo(7); words > 0 && kind != 4 && fault == null; words--) fault = addLabelled(place, figures);
        }
        return fault;
    }

    private String addLabelled(int place, int figures) throws Exception {
        String fault = null;
        int what = upTo(8);
        if (what == 0) fault = call("mark", 0, 1 + upTo(5));
        if (what == 1 && figures > 0) fault = call("mark", 1, upTo(figures));
        if (what > 4) fault = call("mark", 2, upTo(6));
        if (fault == null && upTo(5) < 2) return call("reference", place, other.words(place), upTo(6));
        for (int letters = 1 + upTo(6); letters > 0 && fault == null; letters--) fault = call("spell", 3);
        return fault == null ? call("word", place, other.words(place)) : fault;
    }

    private int blocks() {
        return other.blocks();
    }

    private String change() throws Exception {
        if (blocks() == 0) return call("block", 0, kind());
        int what = upTo(100);
        int place = upTo(blocks());
        if (what < 10) return call("block", upTo(8) > 0 ? blocks() : upTo(blocks() + 1), kind());
        if (what < 70) return addWord(upTo(2) == 0 ? blocks() - 1 : place);
        if (what < 80) return setStyle(place);
        if (what < 86) return tellCell(place);
        if (what < 88) return call("take", place, upTo(Math.max(1, other.words(place))));
        if (what < 89) return call("remove", place);
        if (what < 90) return call("key", upTo(8), upTo(3));
        if (what < 92) return call("figure", upTo(2), 1 + upTo(8));
        if (what < 93) return call("paper", 30 + upTo(30), 6 + upTo(6));
        if (what < 94) return newPattern();
        if (what < 96) return wild();
        return ask();
    }

    private int kind() {
        int[][] kinds = {{0, 0, 0, 1, 2, 3, 4, 5, 6}, {0, 0, 0, 0, 0, 0, 1}, {2, 2, 2, 1}, {0, 1, 4, 4}, {0, 0, 1, 1, 1, 5, 6},
            {0, 2, 1, 6, 5}, {0, 0, 3, 3, 1}, {0, 0, 0, 0, 2, 1}};
        return kinds[mood][upTo(kinds[mood].length)];
    }

    private String addWord(int place) throws Exception {
        String fault = null;
        int chance = mood % 4 == 0 ? 2 : 5;
        if (upTo(chance) == 0) fault = call("mark", 0, 1 + upTo(5));
        if (fault == null && upTo(8) == 0 && figures() > 0) fault = call("mark", 1, upTo(figures()));
        if (fault == null && upTo(8) == 0) fault = call("mark", 2, upTo(6));
        if (fault == null && upTo(8) == 0) fault = call("mark", 3, upTo(8));
        if (fault == null && upTo(20) == 0) fault = call("mark", 4, upTo(2));
        int at = upTo(4) > 0 ? other.words(place) : upTo(other.words(place) + 1);
        if (fault == null && upTo(mood % 3 == 0 ? 2 : 5) == 0) return call("reference", place, at, upTo(6));
        int n = mood == 5 ? 1 : upTo(3) == 0 ? 6 : 1 + upTo(6);
        for (int s = 0; s < n && fault == null; s++) fault = call("spell", upTo(4));
        if (fault == null) fault = call("word", place, at);
        return fault;
    }

    private String newPattern() throws Exception {
        String fault = call("unspell");
        if (fault == null) fault = call("spell", upTo(4));
        return fault == null ? call("pattern", upTo(2), 1 + upTo(5)) : fault;
    }

    private int figures() {
        int n = 0;
        for (int f = 0; f < 5; f++) {
            try {
                other.figureAt(0, f);
                n++;
            } catch (IndexOutOfBoundsException e) {
                return n;
            }
        }
        return n;
    }

    private String setStyle(int place) throws Exception {
        switch (upTo(7)) {
            case 0: return call("style", place, 0, upTo(3));
            case 1: return call("style", place, 1, upTo(2));
            case 2: return call("style", place, 2, upTo(2));
            case 3: return call("style", place, 3, 1 + upTo(2));
            case 4: return call("style", place, 4, upTo(31));
            case 5: return call("style", place, 5, upTo(4));
            default: return call("style", place, 6, upTo(3) - 1);
        }
    }

    private String tellCell(int place) throws Exception {
        int column = upTo(3);
        int least = upTo(3) == 0 ? 0 : upTo(40);
        return call("cell", place, upTo(4), column, 1 + upTo(3 - column), least, least + upTo(upTo(2) == 0 ? 20 : 200 - least));
    }

    /** A call with arguments that may be anything. */
    private String wild() throws Exception {
        List<String> names = new ArrayList<>(METHODS.keySet());
        names.sort(null);
        String name = names.get(upTo(names.size()));
        int[] args = new int[METHODS.get(name)[0].getParameterCount()];
        for (int k = 0; k < args.length; k++) {
            switch (upTo(8)) {
                case 0: args[k] = -1; break;
                case 1: args[k] = Integer.MAX_VALUE - upTo(3); break;
                case 2: args[k] = Integer.MIN_VALUE + upTo(3); break;
                case 3: args[k] = upTo(1200); break;
                default: args[k] = upTo(upTo(2) == 0 ? 4 : 20); break;
            }
        }
        return call(name, args);
    }

    private String ask() throws Exception {
        int variant = upTo(2);
        int place = upTo(blocks());
        switch (upTo(12)) {
            case 0: return call("number", variant, place);
            case 1: return call("lines", variant, place);
            case 2: return call("demerits", variant, place);
            case 3: return call("demeritsByAll", variant, place);
            case 4: return call("cost", variant);
            case 5: return call("costAnew", variant);
            case 6: return call("on", variant, 1 + upTo(5), upTo(3));
            case 7: return call("pages", variant);
            case 8: return call("rounds", variant);
            case 9: return call("head", variant, 1 + upTo(5));
            case 10: return call("labelPage", variant, upTo(6));
            default: return call("indexAt", variant, upTo(3));
        }
    }

    /** Asks everything that can be asked, and once past each end. */
    private String checkAll() throws Exception {
        int calledBefore = calls.size();
        int leftBefore = left;
        String fault = null;
        for (int place = 0; place <= blocks() && fault == null; place++) fault = checkBlock(place);
        for (int variant = 0; variant < 2 && fault == null; variant++) fault = checkVariant(variant);
        if (fault == null) {
            while (calls.size() > calledBefore) calls.remove(calls.size() - 1);
            left = leftBefore;
        }
        return fault;
    }

    private String checkBlock(int place) throws Exception {
        String fault = call("words", place);
        int n = place < blocks() ? other.words(place) : 0;
        for (int at = 0; at <= n && fault == null; at++) {
            fault = call("gaps", place, at);
            if (fault == null) fault = call("whereIs", 0, place, at);
            if (fault == null) fault = call("whereIs", 1, place, at);
        }
        for (int k = 0; k < 4 && fault == null; k++) {
            fault = call("columnWidth", place, k);
            if (fault == null) fault = call("rowHeight", place, k);
        }
        for (int variant = 0; variant < 2 && fault == null; variant++) {
            fault = call("number", variant, place);
            if (fault == null) fault = call("lines", variant, place);
            if (fault == null) fault = call("demerits", variant, place);
            if (fault == null) fault = call("demeritsByAll", variant, place);
            int lines = place < blocks() ? other.lines(variant, place) : 0;
            for (int line = 0; line <= lines && fault == null; line++) {
                fault = call("lineEnd", variant, place, line);
                if (fault == null) fault = call("tightness", variant, place, line);
            }
        }
        return fault;
    }

    private String checkVariant(int variant) throws Exception {
        String fault = null;
        for (String name : List.of("pages", "cost", "costAnew", "rounds", "isSettled")) {
            if (fault == null) fault = call(name, variant);
        }
        for (int page = 0; page <= other.pages(variant) + 1 && fault == null; page++) {
            fault = call("head", variant, page);
            for (int what = 0; what < 3 && fault == null; what++) fault = call("on", variant, page, what);
            int rows = page > 0 && page <= other.pages(variant) ? other.on(variant, page, 0) : 0;
            for (int row = 0; row <= rows && fault == null; row++) fault = call("textAt", variant, page, row);
        }
        for (int k = 0; k < 17 && fault == null; k++) {
            fault = call("contentsAt", variant, k);
            if (fault == null) fault = call("figureAt", variant, k);
            if (fault == null) fault = call("labelPage", variant, k);
            if (fault == null) fault = call("indexAt", variant, k);
            for (int index = 0; index < 4 && fault == null; index++) fault = call("range", variant, k, index);
        }
        return fault;
    }
}
