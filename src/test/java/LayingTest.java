import java.util.ArrayList;
import java.util.List;
import java.util.Random;

/** THE LAYING of many parts: of short ones against all layings that there are, of long ones against the model. */
public final class LayingTest {
    private static final Check CHECK = new Check("LayingTest");

    public static void main(String[] args) {
        int runs = args.length > 0 ? Integer.parseInt(args[0]) : 1;
        for (int seed = 0; seed < 600 * runs; seed++) {
            compareAll(new Random(seed), 1 + seed % 8, true);
        }
        for (int seed = 0; seed < 60 * runs; seed++) {
            compareAll(new Random(1000000 + seed), 10 + seed % 31, false);
        }
        CHECK.finish();
    }

    private static void compareAll(Random r, int bars, boolean isShort) {
        PageTurns x = new PageTurns();
        Model m = new Model();
        fill(r, x, m, 0, bars);
        fill(r, x, m, 1, 1 + r.nextInt(bars));
        // Few different numbers make many layings that are equally good.
        rule(x, m, 0, 20 + 5 * r.nextInt(4));
        rule(x, m, 1, 1 + r.nextInt(isShort ? 3 : 6));
        rule(x, m, 2, 100 * r.nextInt(10));
        rule(x, m, 3, 5 * r.nextInt(3));
        rule(x, m, 4, r.nextInt(3) * 20);
        set(x, m, 0, 1, r.nextInt(3));
        set(x, m, 0, 2, r.nextInt(2) == 0 ? 1 : -1);
        set(x, m, 0, 3, r.nextInt(3) == 0 ? r.nextInt(1024) : 0);
        if (isShort) {
            Model.Laying best = bestOfAll(m, 0);
            Model.Laying found = m.laying(0);
            boolean same = best == null ? found == null : found != null && Model.compare(best, found) == 0;
            CHECK.due("the model's laying is the best of all", same ? 1 : 0, 1);
        }
        ask(x, m);
    }

    private static void ask(PageTurns x, Model m) {
        for (int what = 0; what < 5; what++) {
            CHECK.due("best(0, " + what + ")", x.best(0, what), m.best(0, what));
        }
        int pages = Math.max(0, m.best(0, 2));
        for (int i = 0; i <= pages; i++) {
            for (int what = 0; what < 6; what++) {
                CHECK.due("laid(0, " + i + ", " + what + ")", x.laid(0, i, what), m.laid(0, i, what));
            }
        }
        int lines = Math.max(0, m.best(0, 3));
        for (int i = 0; i <= lines; i++) {
            CHECK.due("ends(0, " + i + ")", x.ends(0, i), m.ends(0, i));
        }
        int stops = Math.max(0, m.best(0, 0));
        for (int i = 0; i <= stops; i++) {
            CHECK.due("stop(0, " + i + ")", x.stop(0, i), m.stop(0, i));
        }
        CHECK.due("hearts(0)", x.hearts(0), m.hearts(0));
        CHECK.due("folds(0)", x.folds(0), m.folds(0));
        CHECK.due("needs(0)", x.needs(0), m.needs(0));
        CHECK.due("together(0, 1)", x.together(0, 1), m.together(0, 1));
        for (int what = 0; what < 4; what++) {
            CHECK.due("all(" + what + ")", x.all(what), m.all(what));
        }
    }

    private static void rule(PageTurns x, Model m, int what, int v) {
        CHECK.due("rule(" + what + ", " + v + ")", x.rule(what, v), m.rule(what, v));
    }

    private static void set(PageTurns x, Model m, int part, int what, int v) {
        CHECK.due("set(" + part + ", " + what + ", " + v + ")", x.set(part, what, v), m.set(part, what, v));
    }

    private static void fill(Random r, PageTurns x, Model m, int part, int bars) {
        for (int b = 0; b < bars; b++) {
            String text = new String[] {"busy", "busy", "busy", "half", "free"}[r.nextInt(5)]
                    + " " + 5 * (1 + r.nextInt(r.nextInt(6) == 0 ? 5 : 2))
                    + " beats " + (1 + r.nextInt(6)) + (r.nextInt(8) == 0 ? " keep" : "")
                    + (r.nextInt(6) == 0 ? " letter" : "") + (r.nextInt(6) == 0 ? " wish" : "");
            Check.feed(x, text);
            m.tape.append(text);
            CHECK.due("read(" + part + ")", x.read(part), m.read(part));
        }
    }

    /** Looks at every laying that there is. */
    private static Model.Laying bestOfAll(Model m, int part) {
        Model.Laying[] best = new Model.Laying[1];
        extend(m, part, 0, new ArrayList<>(), best);
        return best[0];
    }

    private static void extend(Model m, int part, int from, List<Model.Page> pages, Model.Laying[] best) {
        int bars = m.now.parts[part].bars.size();
        if (from == bars) {
            Model.Laying l = new Model.Laying();
            for (int i = 0; i < pages.size(); i++) {
                l.cost += pages.get(i).cost + m.now.paper;
                l.stops += m.turnBehind(part, i, pages.get(i).last) == 2 ? 1 : 0;
            }
            l.pages = new ArrayList<>(pages);
            if (best[0] == null || Model.compare(l, best[0]) < 0) {
                best[0] = l;
            }
            return;
        }
        for (int size = 0; size < 3; size++) {
            addLine(m, part, from, size, new ArrayList<>(), pages, best);
        }
    }

    private static void addLine(Model m, int part, int from, int size, List<Integer> ends,
            List<Model.Page> pages, Model.Laying[] best) {
        int first = pages.isEmpty() ? 0 : pages.get(pages.size() - 1).last + 1;
        int bars = m.now.parts[part].bars.size();
        for (int end = from; end < bars && ends.size() < m.now.lines; end++) {
            if (m.lineCost(part, from, end, size) < -1000000) {
                continue;
            }
            ends.add(end);
            Model.Page p = new Model.Page();
            p.first = first;
            p.last = end;
            p.size = size;
            p.ends = new ArrayList<>(ends);
            int at = first;
            for (int e : ends) {
                p.cost += m.lineCost(part, at, e, size);
                at = e + 1;
            }
            pages.add(p);
            extend(m, part, end + 1, pages, best);
            pages.remove(pages.size() - 1);
            addLine(m, part, end + 1, size, ends, pages, best);
            ends.remove(ends.size() - 1);
        }
    }
}
