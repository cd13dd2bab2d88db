/** All that an object answers, told in one text: two objects in the same state give the same text. */
final class Snapshot {
    private final Galleyforge g;
    private final StringBuilder told = new StringBuilder();

    interface Question {
        long answer();
    }

    private Snapshot(Galleyforge g) {
        this.g = g;
    }

    /** All that can be asked, which changes nothing. */
    static String asked(Galleyforge g) {
        Snapshot s = new Snapshot(g);
        s.ask("blocks", () -> g.blocks());
        for (int place = 0; place < g.blocks(); place++) {
            s.askBlock(place);
        }
        for (int variant = 0; variant < 2; variant++) {
            s.askPages(variant);
            s.askReferences(variant);
        }
        return s.told.toString();
    }

    /** All that can be asked, and what calls answer that tell it anew; the object is of no use behind that. */
    static String whole(Galleyforge g) {
        Snapshot s = new Snapshot(g);
        s.told.append(asked(g));
        for (int place = 0; place < g.blocks(); place++) {
            int at = place;
            for (int style = 0; style < 7; style++) {
                int which = style;
                s.ask("style", () -> g.style(at, which, 1));
            }
        }
        for (int term = 0; term < 8; term++) {
            int which = term;
            s.ask("key", () -> g.key(which, 0));
        }
        s.ask("paper", () -> g.paper(60, 12));
        s.ask("figure", () -> g.figure(0, 1));
        s.ask("spelled", () -> g.unspell());
        for (int what = 0; what < 5; what++) {
            int which = what;
            s.ask("drafted", () -> g.mark(which, -1));
        }
        g.spell(0);
        s.ask("patterns", () -> g.pattern(0, 1));
        return s.told.toString();
    }

    private boolean ask(String what, Question question) {
        told.append(what).append(' ');
        try {
            told.append(question.answer()).append('\n');
            return true;
        } catch (IndexOutOfBoundsException | IllegalStateException e) {
            told.append(e.getClass().getName()).append('\n');
            return false;
        }
    }

    private void askBlock(int place) {
        ask("words", () -> g.words(place));
        for (int at = 0; at < g.words(place); at++) {
            int which = at;
            ask("gaps", () -> g.gaps(place, which));
            ask("whereIs", () -> g.whereIs(0, place, which));
            ask("whereIs", () -> g.whereIs(1, place, which));
        }
        for (int k = 0; k < 4; k++) {
            int which = k;
            ask("columnWidth", () -> g.columnWidth(place, which));
            ask("rowHeight", () -> g.rowHeight(place, which));
        }
        for (int v = 0; v < 2; v++) {
            int variant = v;
            ask("number", () -> g.number(variant, place));
            ask("demerits", () -> g.demerits(variant, place));
            ask("demeritsByAll", () -> g.demeritsByAll(variant, place));
            for (int k = 0; k < g.lines(variant, place); k++) {
                int line = k;
                ask("lineEnd", () -> g.lineEnd(variant, place, line));
                ask("tightness", () -> g.tightness(variant, place, line));
            }
        }
    }

    private void askPages(int variant) {
        ask("pages", () -> g.pages(variant));
        ask("cost", () -> g.cost(variant));
        ask("costAnew", () -> g.costAnew(variant));
        ask("rounds", () -> g.rounds(variant));
        ask("isSettled", () -> g.isSettled(variant) ? 1 : 0);
        for (int p = 1; p <= g.pages(variant); p++) {
            int page = p;
            ask("head", () -> g.head(variant, page));
            for (int what = 0; what < 3; what++) {
                int which = what;
                ask("on", () -> g.on(variant, page, which));
            }
            for (int row = 0; row < g.on(variant, page, 0); row++) {
                int which = row;
                ask("textAt", () -> g.textAt(variant, page, which));
            }
        }
        for (int figure = 0; figure < 5; figure++) {
            int which = figure;
            ask("figureAt", () -> g.figureAt(variant, which));
        }
    }

    private void askReferences(int variant) {
        for (int k = 0; k < 6; k++) {
            int label = k;
            ask("labelPage", () -> g.labelPage(variant, label));
        }
        for (int k = 0; k < 16; k++) {
            int index = k;
            ask("contentsAt", () -> g.contentsAt(variant, index));
        }
        for (int k = 0; k < 8; k++) {
            int which = k;
            ask("indexAt", () -> g.indexAt(variant, which));
            boolean goesOn = true;
            for (int n = 0; goesOn; n++) {
                int index = n;
                goesOn = ask("range", () -> g.range(variant, which, index));
            }
        }
    }
}
