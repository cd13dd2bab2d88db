import java.util.ArrayList;
import java.util.Arrays;
import java.util.HashMap;
import java.util.HashSet;
import java.util.List;
import java.util.Map;
import java.util.Set;
import java.util.TreeMap;
import java.util.TreeSet;

/** The document told a second time, in the simplest way and without regard to time and room; tests compare with it. */
public final class NaiveGalley {
    static final class Word {
        List<Integer> letters = new ArrayList<>();
        int target = -1;
        int[] marks;

        boolean in(int variant) {
            return marks[4] == -1 || marks[4] == variant;
        }
    }

    static final class Block {
        int kind;
        int[] styles = {0, 0, 0, 1, 0, 0, -1};
        List<Word> words = new ArrayList<>();
        /** By 10 * row + column: span, least, best. */
        TreeMap<Integer, int[]> cells = new TreeMap<>();

        boolean in(int variant) {
            return styles[6] == -1 || styles[6] == variant;
        }
    }

    /** One row: its block, which one of it, its height, its words. */
    static final class Row {
        int place;
        int index;
        int height;
        boolean breakBehind;
        List<int[]> words = new ArrayList<>();
    }

    static final class Place {
        int at;
        int gap;
        int width;
    }

    static final class Line {
        int end;
        int spread;
        int tight;
    }

    static final class Broken {
        long demerits;
        List<Line> lines = new ArrayList<>();
    }

    static final class Page {
        int first;
        int rows;
        int notes;
        int used;
        int cost;
        List<Integer> top = new ArrayList<>();
        List<Integer> bottom = new ArrayList<>();
        List<Integer> alone = new ArrayList<>();
        List<Integer> waitNext = new ArrayList<>();
        int leftNext;
    }

    static final class Way {
        int cost;
        List<Page> pages = new ArrayList<>();
    }

    static final class Made {
        Map<Integer, Broken> broken = new HashMap<>();
        Map<Integer, List<Place>> places = new HashMap<>();
        List<Row> rows = new ArrayList<>();
        List<Integer> figures = new ArrayList<>();
        Map<Integer, Integer> mention = new HashMap<>();
        Way way;
        int[] digits;
        int rounds;
        boolean settled;
    }

    private final List<Integer> spelled = new ArrayList<>();
    private int[] drafts = {-1, -1, -1, -1, -1};
    private final List<int[]> patterns = new ArrayList<>();
    private final List<List<Integer>> patternLetters = new ArrayList<>();
    private final List<Block> text = new ArrayList<>();
    private final List<int[]> figs = new ArrayList<>();
    private int width = 60;
    private int height = 12;
    private final int[] keys = new int[8];
    private final Made[] last = new Made[2];

    private static IndexOutOfBoundsException index() {
        return new IndexOutOfBoundsException();
    }

    private static IllegalArgumentException argument() {
        return new IllegalArgumentException();
    }

    private static IllegalStateException state() {
        return new IllegalStateException();
    }

    private void changed() {
        last[0] = null;
        last[1] = null;
    }

    public int spell(int letter) {
        if (letter < 0 || letter > 3) throw index();
        if (spelled.size() == 6) throw state();
        spelled.add(letter);
        return spelled.size();
    }

    public int unspell() {
        int n = spelled.size();
        spelled.clear();
        return n;
    }

    public int mark(int what, int value) {
        if (what < 0 || what > 4) throw index();
        int[][] bounds = {{1, 5}, {0, figs.size() - 1}, {0, 5}, {0, 7}, {0, 1}};
        if (value != -1 && (value < bounds[what][0] || value > bounds[what][1])) throw argument();
        int was = drafts[what];
        drafts[what] = value;
        return was;
    }

    public int pattern(int gap, int level) {
        if (gap < 0 || gap > spelled.size() || level < 1 || level > 5) throw argument();
        if (spelled.isEmpty() || spelled.size() > 3 || patterns.size() == 8) throw state();
        patterns.add(new int[] {gap, level});
        patternLetters.add(new ArrayList<>(spelled));
        spelled.clear();
        changed();
        return patterns.size();
    }

    private Block at(int place) {
        if (place < 0 || place >= text.size()) throw index();
        return text.get(place);
    }

    public int word(int place, int at) {
        Block b = at(place);
        if (at < 0 || at > b.words.size()) throw index();
        if (b.kind > 2 || b.words.size() == 12 || spelled.isEmpty()) throw state();
        Word w = new Word();
        w.letters.addAll(spelled);
        spelled.clear();
        return put(b, at, w);
    }

    private int put(Block b, int at, Word w) {
        w.marks = drafts;
        drafts = new int[] {-1, -1, -1, -1, -1};
        b.words.add(at, w);
        changed();
        return b.words.size();
    }

    public int reference(int place, int at, int label) {
        Block b = at(place);
        if (at < 0 || at > b.words.size() || label < 0 || label > 5) throw index();
        if (b.kind > 2 || b.words.size() == 12) throw state();
        Word w = new Word();
        w.target = label;
        return put(b, at, w);
    }

    private Word wordAt(int place, int at) {
        Block b = at(place);
        if (at < 0 || at >= b.words.size()) throw index();
        return b.words.get(at);
    }

    public int take(int place, int at) {
        wordAt(place, at);
        at(place).words.remove(at);
        changed();
        return at(place).words.size();
    }

    public int block(int place, int kind) {
        if (place < 0 || place > text.size()) throw index();
        if (kind < 0 || kind > 6) throw argument();
        if (text.size() == 16) throw state();
        Block b = new Block();
        b.kind = kind;
        text.add(place, b);
        changed();
        return text.size();
    }

    public int remove(int place) {
        at(place);
        text.remove(place);
        changed();
        return text.size();
    }

    public int style(int place, int style, int value) {
        Block b = at(place);
        if (style < 0 || style > 6) throw index();
        int[][] bounds = {{0, 2}, {0, 1}, {0, 1}, {1, 2}, {0, 30}, {0, 3}, {-1, 1}};
        if (value < bounds[style][0] || value > bounds[style][1]) throw argument();
        int was = b.styles[style];
        b.styles[style] = value;
        changed();
        return was;
    }

    public int cell(int place, int row, int column, int span, int least, int best) {
        Block b = at(place);
        if (row < 0 || row > 3 || column < 0 || column > 2 || span < 1 || span > 3 || (long) column + span > 3
                || least < 0 || least > 60 || best < least || best > 200) {
            throw argument();
        }
        if (b.kind != 3) throw state();
        b.cells.put(10 * row + column, new int[] {span, least, best});
        changed();
        return tableRows(b);
    }

    private static int tableRows(Block b) {
        int n = 0;
        for (int c : b.cells.keySet()) n = Math.max(n, c / 10 + 1);
        return n;
    }

    private static int tableColumns(Block b) {
        int n = 0;
        for (Map.Entry<Integer, int[]> c : b.cells.entrySet()) n = Math.max(n, c.getKey() % 10 + c.getValue()[0]);
        return n;
    }

    public int figure(int kind, int height) {
        if (kind < 0 || kind > 1 || height < 1 || height > 40) throw argument();
        if (figs.size() == 5) throw state();
        figs.add(new int[] {kind, height});
        changed();
        return figs.size() - 1;
    }

    public int paper(int width, int height) {
        if (width < 30 || width > 120 || height < 6 || height > 40) throw argument();
        int was = this.width;
        this.width = width;
        this.height = height;
        changed();
        return was;
    }

    public int key(int term, int key) {
        if (term < 0 || term > 7) throw index();
        if (key < 0 || key > 999) throw argument();
        int was = keys[term];
        keys[term] = key;
        return was;
    }

    public int blocks() {
        return text.size();
    }

    public int words(int place) {
        return at(place).words.size();
    }

    public int gaps(int place, int at) {
        int set = 0;
        for (int gap : gapsOf(wordAt(place, at))) set += 1 << gap;
        return set;
    }

    private List<Integer> gapsOf(Word w) {
        int n = w.letters.size();
        int[] level = new int[n + 1];
        for (int k = 0; k < patterns.size(); k++) {
            List<Integer> p = patternLetters.get(k);
            for (int from = 0; from + p.size() <= n; from++) {
                if (w.letters.subList(from, from + p.size()).equals(p)) {
                    int gap = from + patterns.get(k)[0];
                    level[gap] = Math.max(level[gap], patterns.get(k)[1]);
                }
            }
        }
        List<Integer> gaps = new ArrayList<>();
        for (int gap = 0; gap <= n; gap++) {
            if (level[gap] % 2 != 0 && gap >= 2 && n - gap >= 2) gaps.add(gap);
        }
        return gaps;
    }

    private static void checkVariant(int variant) {
        if (variant != 0 && variant != 1) throw index();
    }

    public int number(int variant, int place) {
        checkVariant(variant);
        Block b = at(place);
        if (!b.in(variant)) return -1;
        if (b.kind == 1) {
            int ones = 0;
            for (int k = 0; k <= place; k++) {
                Block o = text.get(k);
                if (o.in(variant) && o.kind == 1 && o.styles[3] == 1) ones++;
            }
            if (b.styles[3] == 1) return 100 * ones;
            int twos = 0;
            for (int k = place; k >= 0; k--) {
                Block o = text.get(k);
                if (!o.in(variant) || o.kind != 1) continue;
                if (o.styles[3] == 1) break;
                twos++;
            }
            return 100 * ones + twos;
        }
        return b.kind == 0 && b.styles[1] == 1 ? numbered(variant, place) : 0;
    }

    private int numbered(int variant, int place) {
        Block b = text.get(place);
        for (int k = place - 1; k >= 0; k--) {
            Block o = text.get(k);
            if (!o.in(variant)) continue;
            boolean numbered = o.kind == 0 && o.styles[1] == 1;
            if (numbered && o.styles[0] == b.styles[0]) return 1 + numbered(variant, k);
            if (numbered && o.styles[0] > b.styles[0]) continue;
            return 1;
        }
        return 1;
    }

    private int[] columnWidths(Block b) {
        int columns = tableColumns(b);
        int[] least = new int[columns];
        int[] best = new int[columns];
        for (int span = 1; span <= 3; span++) {
            for (int c : b.cells.keySet()) {
                int[] cell = b.cells.get(c);
                if (cell[0] != span) continue;
                share(least, c % 10, span, cell[1]);
                share(best, c % 10, span, cell[2]);
            }
        }
        int leastSum = Arrays.stream(least).sum();
        int bestSum = Arrays.stream(best).sum();
        if (bestSum <= width) return best;
        if (leastSum >= width) return least;
        int e = width - leastSum;
        int s = 0;
        for (int k = 0; k < columns; k++) s += Math.max(0, best[k] - least[k]);
        int over = e;
        int[] widths = least.clone();
        for (int k = 0; k < columns; k++) {
            int g = Math.max(0, best[k] - least[k]);
            widths[k] += e * g / s;
            over -= e * g / s;
        }
        for (int k = 0; k < over; k++) widths[k]++;
        return widths;
    }

    private static void share(int[] columns, int from, int span, int wanted) {
        int sum = 0;
        for (int k = from; k < from + span; k++) sum += columns[k];
        int lack = wanted - sum;
        if (lack <= 0) return;
        for (int k = 0; k < span; k++) columns[from + k] += lack / span;
        for (int k = 0; k < lack % span; k++) columns[from + k]++;
    }

    private int tableRowHeight(Block b, int row) {
        int[] widths = columnWidths(b);
        int h = 1;
        for (int c : b.cells.keySet()) {
            if (c / 10 != row) continue;
            int[] cell = b.cells.get(c);
            int w = 0;
            for (int k = 0; k < cell[0]; k++) w += widths[c % 10 + k];
            int lines = w == 0 ? 1 : cell[2] / w + (cell[2] % w > 0 ? 1 : 0);
            h = Math.max(h, lines);
        }
        return h;
    }

    public int columnWidth(int place, int column) {
        Block b = at(place);
        if (b.kind != 3 || column < 0 || column >= tableColumns(b)) throw index();
        return columnWidths(b)[column];
    }

    public int rowHeight(int place, int row) {
        Block b = at(place);
        if (b.kind != 3 || row < 0 || row >= tableRows(b)) throw index();
        return tableRowHeight(b, row);
    }

    // ---- lines

    private int lineWidth(Block b, int line) {
        if (b.kind == 2) return (width - 4) / 2;
        int w = width - 6 * b.styles[0];
        if (line < b.styles[5]) w -= b.styles[4];
        return Math.max(10, w);
    }

    /** The place 0 is the beginning; widths are those of letters and references since the place ahead. */
    private List<Place> placesOf(Block b, int variant, int[] digits) {
        List<Place> places = new ArrayList<>();
        places.add(new Place());
        if (b.kind != 0 && b.kind != 2 || !b.in(variant)) return places;
        int[] widths = {2, 3, 4, 6};
        for (int at = 0; at < b.words.size(); at++) {
            Word w = b.words.get(at);
            if (!w.in(variant)) continue;
            int since = 0;
            if (w.target >= 0) since = 3 * digits[w.target];
            List<Integer> gaps = gapsOf(w);
            for (int k = 0; k < w.letters.size(); k++) {
                if (gaps.contains(k)) {
                    Place p = new Place();
                    p.at = at;
                    p.gap = k;
                    p.width = since;
                    places.add(p);
                    since = 0;
                }
                since += widths[w.letters.get(k)];
            }
            Place p = new Place();
            p.at = at;
            p.width = since;
            places.add(p);
        }
        return places;
    }

    private Line lineOf(Block b, List<Place> places, int from, int to, int number) {
        int m = 0;
        for (int k = from + 1; k < to; k++) if (places.get(k).gap == 0) m++;
        int natural = 3 * m;
        for (int k = from + 1; k <= to; k++) natural += places.get(k).width;
        if (places.get(to).gap > 0) natural += 2;
        int w = lineWidth(b, number);
        Line line = new Line();
        line.end = to;
        if (to == places.size() - 1 && natural <= w) {
            line.spread = 0;
            line.tight = 1;
        } else if (natural <= w && m == 0) {
            line.spread = natural == w ? 0 : 400;
            line.tight = natural == w ? 1 : 3;
        } else if (natural <= w) {
            line.spread = Math.min(400, 100 * (w - natural) / (2 * m));
            line.tight = line.spread < 50 ? 1 : line.spread > 100 ? 3 : 2;
        } else if (natural - w <= m) {
            line.spread = 100 * (natural - w) / m;
            line.tight = line.spread < 50 ? 1 : 0;
        } else if (to == from + 1) {
            line.spread = 400;
            line.tight = 0;
        } else {
            return null;
        }
        return line;
    }

    private static long demeritsOf(List<Place> places, int from, Line line, Line ahead) {
        boolean gap = places.get(line.end).gap > 0;
        long base = 10 + (long) line.spread * line.spread * line.spread / 10000 + (gap ? 50 : 0);
        long d = base * base;
        if (ahead != null) {
            if (Math.abs(ahead.tight - line.tight) > 1) d += 3000;
            if (gap && places.get(from).gap > 0) d += 2000;
        }
        return d;
    }

    private Broken breakFrom(Block b, List<Place> places, int from, int number, Line ahead, Map<String, Broken> memo) {
        if (from == places.size() - 1) return new Broken();
        String key = from + "," + number + "," + (ahead == null ? -1 : ahead.tight);
        Broken best = memo.get(key);
        if (best != null) return best;
        for (int to = from + 1; to < places.size(); to++) {
            Line line = lineOf(b, places, from, to, number);
            if (line == null) continue;
            Broken rest = breakFrom(b, places, to, number + 1, line, memo);
            Broken way = new Broken();
            way.demerits = demeritsOf(places, from, line, ahead) + rest.demerits;
            way.lines.add(line);
            way.lines.addAll(rest.lines);
            if (best == null || isBetter(way, best)) best = way;
        }
        memo.put(key, best);
        return best;
    }

    private static boolean isBetter(Broken a, Broken b) {
        if (a.demerits != b.demerits) return a.demerits < b.demerits;
        if (a.lines.size() != b.lines.size()) return a.lines.size() < b.lines.size();
        for (int k = 0; k < a.lines.size(); k++) {
            if (a.lines.get(k).end != b.lines.get(k).end) return a.lines.get(k).end < b.lines.get(k).end;
        }
        return false;
    }

    // ---- rows

    private Made typeset(int variant, int[] digits) {
        Made made = new Made();
        made.digits = digits;
        int headings = 0;
        Set<Integer> terms = new HashSet<>();
        for (int place = 0; place < text.size(); place++) {
            Block b = text.get(place);
            List<Place> places = placesOf(b, variant, digits);
            made.places.put(place, places);
            made.broken.put(place, breakFrom(b, places, 0, 0, null, new HashMap<>()));
            if (!b.in(variant)) continue;
            if (b.kind == 1) headings++;
            for (Word w : b.words) if (w.in(variant) && w.marks[3] >= 0) terms.add(w.marks[3]);
        }
        for (int place = 0; place < text.size(); place++) {
            Block b = text.get(place);
            if (!b.in(variant)) continue;
            if (b.kind == 4) {
                if (!made.rows.isEmpty()) made.rows.get(made.rows.size() - 1).breakBehind = true;
                continue;
            }
            int lines = made.broken.get(place).lines.size();
            int n = 0;
            if (b.kind == 0) n = lines;
            if (b.kind == 1) n = 1;
            if (b.kind == 2) n = lines - lines / 2;
            if (b.kind == 3) n = tableRows(b);
            if (b.kind == 5) n = headings;
            if (b.kind == 6) n = terms.size();
            for (int k = 0; k < n; k++) {
                Row row = new Row();
                row.place = place;
                row.index = k;
                row.height = b.kind == 1 ? 2 : b.kind == 3 ? tableRowHeight(b, k) : 1;
                for (int at = 0; at < b.words.size(); at++) {
                    if (!b.words.get(at).in(variant)) continue;
                    int line = b.kind == 1 ? 0 : lineOfWord(made, place, at);
                    if (b.kind == 1 || line == k || b.kind == 2 && line == k + n) row.words.add(new int[] {place, at});
                }
                made.rows.add(row);
            }
        }
        findFigures(made);
        made.way = pagesFrom(made, 0, new ArrayList<>(), 0, new HashMap<>());
        return made;
    }

    /** The line in which the first letter of a word is. */
    private int lineOfWord(Made made, int place, int at) {
        List<Place> places = made.places.get(place);
        int firstOfWord = 1;
        while (places.get(firstOfWord).at != at) firstOfWord++;
        List<Line> lines = made.broken.get(place).lines;
        for (int k = 0; k < lines.size(); k++) {
            if (firstOfWord <= lines.get(k).end) return k;
        }
        throw new AssertionError();
    }

    private Word word(int[] where) {
        return text.get(where[0]).words.get(where[1]);
    }

    private void findFigures(Made made) {
        for (int r = 0; r < made.rows.size(); r++) {
            for (int[] where : made.rows.get(r).words) {
                int f = word(where).marks[1];
                if (f >= 0 && !made.mention.containsKey(f)) {
                    made.mention.put(f, r);
                    made.figures.add(f);
                }
            }
        }
    }

    // ---- pages

    private boolean sameKindAhead(Made made, List<Integer> staying, int figure) {
        for (int other : staying) {
            if (figs.get(other)[0] == figs.get(figure)[0]
                    && made.figures.indexOf(other) < made.figures.indexOf(figure)) {
                return true;
            }
        }
        return false;
    }

    /** A page with n rows; null, if it may not have them. */
    private Page pageOf(Made made, int i, List<Integer> wait, int left, int n) {
        Page page = new Page();
        page.first = i;
        page.rows = n;
        int top = 0;
        List<Integer> staying = new ArrayList<>();
        for (int f : wait) {
            if (top + figs.get(f)[1] <= height / 2 && !sameKindAhead(made, staying, f)) {
                page.top.add(f);
                top += figs.get(f)[1];
            } else {
                staying.add(f);
            }
        }
        int rowHeights = 0;
        List<Integer> notes = new ArrayList<>();
        for (int r = i; r < i + n; r++) {
            if (r > i && made.rows.get(r - 1).breakBehind) return null;
            rowHeights += made.rows.get(r).height;
            for (int[] where : made.rows.get(r).words) {
                if (word(where).marks[0] > 0) notes.add(word(where).marks[0]);
            }
        }
        int f = height - top - rowHeights;
        int all = 0;
        for (int note : notes) all += note;
        boolean may = n == 1;
        if (f >= 0) {
            if (!notes.isEmpty()) {
                may |= f >= left + (all - notes.get(notes.size() - 1)) + 2;
            } else if (left > 0) {
                may |= f >= 2;
            } else {
                may = true;
            }
        }
        if (!may) return null;
        page.notes = f < 2 ? 0 : Math.min(f - 1, left + all);
        page.leftNext = left + all - page.notes;
        page.used = top + rowHeights + (page.notes > 0 ? page.notes + 1 : 0);
        for (int fig : made.figures) {
            int r = made.mention.get(fig);
            if (r < i || r >= i + n) continue;
            if (page.used + figs.get(fig)[1] <= height && !sameKindAhead(made, staying, fig)) {
                page.bottom.add(fig);
                page.used += figs.get(fig)[1];
            } else {
                staying.add(fig);
            }
        }
        page.waitNext = staying;
        page.cost = costOf(made, page);
        return page;
    }

    private int costOf(Made made, Page page) {
        int end = page.first + page.rows - 1;
        Row row = made.rows.get(end);
        boolean last = end == made.rows.size() - 1;
        int cost = 0;
        if (page.used < height && !last && !row.breakBehind) cost += (height - page.used) * (height - page.used);
        if (page.used > height) cost += 100 * (page.used - height);
        if (page.leftNext > 0) cost += 100;
        if (last || row.breakBehind) return cost;
        Row next = made.rows.get(end + 1);
        Block b = text.get(row.place);
        boolean same = row.place == next.place;
        if (b.kind == 1 || same && (b.kind == 2 || b.styles[2] == 1)) {
            cost += 10000;
        } else if (same && b.kind == 0) {
            if (row.index == 0) cost += 150;
            boolean nextIsLast = end + 2 == made.rows.size() || made.rows.get(end + 2).place != next.place;
            if (nextIsLast) cost += 150;
        } else if (same && b.kind == 3) {
            cost += 100;
        }
        return cost;
    }

    private Way pagesFrom(Made made, int i, List<Integer> wait, int left, Map<String, Way> memo) {
        String key = i + " " + wait + " " + left;
        if (memo.containsKey(key)) return memo.get(key);
        Way best = null;
        if (i == made.rows.size()) {
            best = pagesBehind(wait, left);
        } else if (!wait.isEmpty() && figs.get(wait.get(0))[1] > height / 2) {
            Page page = new Page();
            page.first = i;
            page.used = figs.get(wait.get(0))[1];
            page.alone.add(wait.get(0));
            best = behind(page, pagesFrom(made, i, wait.subList(1, wait.size()), left, memo));
        } else {
            for (int n = 1; i + n <= made.rows.size(); n++) {
                Page page = pageOf(made, i, wait, left, n);
                if (page == null) continue;
                Way way = behind(page, pagesFrom(made, i + n, page.waitNext, page.leftNext, memo));
                if (best == null || isBetter(way, best)) best = way;
            }
        }
        memo.put(key, best);
        return best;
    }

    private static Way behind(Page page, Way rest) {
        Way way = new Way();
        way.cost = page.cost + rest.cost;
        way.pages.add(page);
        way.pages.addAll(rest.pages);
        return way;
    }

    private static boolean isBetter(Way a, Way b) {
        if (a.cost != b.cost) return a.cost < b.cost;
        if (a.pages.size() != b.pages.size()) return a.pages.size() < b.pages.size();
        for (int k = 0; k < a.pages.size(); k++) {
            if (a.pages.get(k).rows != b.pages.get(k).rows) return a.pages.get(k).rows < b.pages.get(k).rows;
        }
        return false;
    }

    private Way pagesBehind(List<Integer> wait, int left) {
        Way way = new Way();
        List<Integer> waiting = new ArrayList<>(wait);
        while (!waiting.isEmpty() || left > 0) {
            Page page = new Page();
            page.first = -1;
            if (!waiting.isEmpty()) {
                do {
                    int f = waiting.remove(0);
                    page.alone.add(f);
                    page.used += figs.get(f)[1];
                } while (!waiting.isEmpty() && page.used + figs.get(waiting.get(0))[1] <= height);
            } else {
                page.notes = Math.min(left, height - 1);
                page.used = page.notes + 1;
                left -= page.notes;
            }
            way.pages.add(page);
        }
        return way;
    }

    // ---- rounds

    private int pageOfRow(Made made, int row) {
        for (int p = 0; p < made.way.pages.size(); p++) {
            Page page = made.way.pages.get(p);
            if (page.rows > 0 && row >= page.first && row < page.first + page.rows) return p + 1;
        }
        throw new AssertionError();
    }

    private int rowOfLabel(Made made, int label) {
        for (int r = 0; r < made.rows.size(); r++) {
            for (int[] where : made.rows.get(r).words) {
                if (word(where).marks[2] == label) return r;
            }
        }
        return -1;
    }

    private int pageOfLabel(Made made, int label) {
        int row = rowOfLabel(made, label);
        return row < 0 ? -1 : pageOfRow(made, row);
    }

    Made made(int variant) {
        checkVariant(variant);
        if (last[variant] != null) return last[variant];
        List<int[]> tried = new ArrayList<>();
        int[] digits = {1, 1, 1, 1, 1, 1};
        while (true) {
            tried.add(digits);
            Made made = typeset(variant, digits);
            made.rounds = tried.size();
            int[] given = new int[6];
            for (int label = 0; label < 6; label++) {
                int page = pageOfLabel(made, label);
                given[label] = page < 0 ? 1 : String.valueOf(page).length();
            }
            if (Arrays.equals(given, digits)) {
                made.settled = true;
                last[variant] = made;
                return made;
            }
            for (int k = 0; k < tried.size(); k++) {
                if (!Arrays.equals(given, tried.get(k))) continue;
                int[] most = new int[6];
                for (int[] d : tried.subList(k, tried.size())) {
                    for (int label = 0; label < 6; label++) most[label] = Math.max(most[label], d[label]);
                }
                last[variant] = typeset(variant, most);
                last[variant].rounds = tried.size() + 1;
                return last[variant];
            }
            digits = given;
        }
    }

    // ---- what is asked

    public int lines(int variant, int place) {
        checkVariant(variant);
        at(place);
        return made(variant).broken.get(place).lines.size();
    }

    private Line line(int variant, int place, int line) {
        if (line < 0 || line >= lines(variant, place)) throw index();
        return made(variant).broken.get(place).lines.get(line);
    }

    public int lineEnd(int variant, int place, int line) {
        Place p = made(variant).places.get(placeOf(variant, place)).get(line(variant, place, line).end);
        return 10 * p.at + p.gap;
    }

    private int placeOf(int variant, int place) {
        checkVariant(variant);
        at(place);
        return place;
    }

    public int tightness(int variant, int place, int line) {
        return line(variant, place, line).tight;
    }

    public long demerits(int variant, int place) {
        return made(variant).broken.get(placeOf(variant, place)).demerits;
    }

    public long demeritsByAll(int variant, int place) {
        List<Place> places = made(variant).places.get(placeOf(variant, place));
        if (places.size() == 1) return 0;
        if (places.size() > 13) return -1;
        return byAll(text.get(place), places, 0, 0, null);
    }

    private long byAll(Block b, List<Place> places, int from, int number, Line ahead) {
        if (from == places.size() - 1) return 0;
        long least = Long.MAX_VALUE;
        for (int to = from + 1; to < places.size(); to++) {
            Line line = lineOf(b, places, from, to, number);
            if (line == null) continue;
            least = Math.min(least, demeritsOf(places, from, line, ahead) + byAll(b, places, to, number + 1, line));
        }
        return least;
    }

    public int pages(int variant) {
        return made(variant).way.pages.size();
    }

    public int cost(int variant) {
        return made(variant).way.cost;
    }

    public int costAnew(int variant) {
        return made(variant).way.cost;
    }

    public int rounds(int variant) {
        return made(variant).rounds;
    }

    public boolean isSettled(int variant) {
        return made(variant).settled;
    }

    private Page page(int variant, int page) {
        if (page < 1 || page > pages(variant)) throw index();
        return made(variant).way.pages.get(page - 1);
    }

    public int on(int variant, int page, int what) {
        Page p = page(variant, page);
        if (what < 0 || what > 2) throw index();
        return new int[] {p.rows, p.notes, p.used}[what];
    }

    public int head(int variant, int page) {
        page(variant, page);
        int head = -1;
        Made made = made(variant);
        for (int r = 0; r < made.rows.size(); r++) {
            Block b = text.get(made.rows.get(r).place);
            if (b.kind != 1 || b.styles[3] != 1) continue;
            int p = pageOfRow(made, r);
            if (p == page) return made.rows.get(r).place;
            if (p < page) head = made.rows.get(r).place;
        }
        return head;
    }

    public int textAt(int variant, int page, int row) {
        Page p = page(variant, page);
        if (row < 0 || row >= p.rows) throw index();
        Row r = made(variant).rows.get(p.first + row);
        return 1000 * r.place + r.index;
    }

    public int whereIs(int variant, int place, int at) {
        checkVariant(variant);
        wordAt(place, at);
        Made made = made(variant);
        for (int r = 0; r < made.rows.size(); r++) {
            for (int[] where : made.rows.get(r).words) {
                if (where[0] == place && where[1] == at) {
                    int page = pageOfRow(made, r);
                    return 1000 * page + r - made.way.pages.get(page - 1).first;
                }
            }
        }
        return -1;
    }

    public int figureAt(int variant, int figure) {
        checkVariant(variant);
        if (figure < 0 || figure >= figs.size()) throw index();
        List<Page> pages = made(variant).way.pages;
        for (int p = 0; p < pages.size(); p++) {
            if (pages.get(p).top.contains(figure)) return 10 * (p + 1);
            if (pages.get(p).bottom.contains(figure)) return 10 * (p + 1) + 1;
            if (pages.get(p).alone.contains(figure)) return 10 * (p + 1) + 2;
        }
        return -1;
    }

    public int labelPage(int variant, int label) {
        checkVariant(variant);
        if (label < 0 || label > 5) throw index();
        return pageOfLabel(made(variant), label);
    }

    public int contentsAt(int variant, int index) {
        checkVariant(variant);
        List<Integer> answers = new ArrayList<>();
        Made made = made(variant);
        for (int r = 0; r < made.rows.size(); r++) {
            int place = made.rows.get(r).place;
            if (text.get(place).kind == 1) answers.add(1000 * place + pageOfRow(made, r));
        }
        if (index < 0 || index >= answers.size()) throw index();
        return answers.get(index);
    }

    public int indexAt(int variant, int index) {
        checkVariant(variant);
        List<Integer> terms = new ArrayList<>();
        for (int term = 0; term < 8; term++) if (!pagesOf(variant, term).isEmpty()) terms.add(term);
        terms.sort((a, b) -> keys[a] != keys[b] ? keys[a] - keys[b] : a - b);
        if (index < 0 || index >= terms.size()) throw index();
        return terms.get(index);
    }

    private TreeSet<Integer> pagesOf(int variant, int term) {
        TreeSet<Integer> pages = new TreeSet<>();
        Made made = made(variant);
        for (int r = 0; r < made.rows.size(); r++) {
            for (int[] where : made.rows.get(r).words) {
                if (word(where).marks[3] == term) pages.add(pageOfRow(made, r));
            }
        }
        return pages;
    }

    public int range(int variant, int term, int index) {
        checkVariant(variant);
        if (term < 0 || term > 7) throw index();
        List<Integer> ranges = new ArrayList<>();
        int first = 0;
        int before = -5;
        for (int page : pagesOf(variant, term)) {
            if (page != before + 1) {
                first = page;
                ranges.add(0);
            }
            ranges.set(ranges.size() - 1, 1000 * first + page);
            before = page;
        }
        if (index < 0 || index >= ranges.size()) throw index();
        return ranges.get(index);
    }
}
