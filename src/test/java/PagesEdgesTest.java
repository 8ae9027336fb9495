import java.io.IOException;
import java.util.function.Supplier;

/** Promises 12 to 22: each sentence with its edges. */
public final class PagesEdgesTest {
    private static final Edges E = new Edges("PagesEdgesTest");
    private static final int MIN = Integer.MIN_VALUE;
    private static final int MAX = Integer.MAX_VALUE;
    private static final int BEYOND = Check.BEYOND;
    private static final int NONE = Check.NONE;

    /** As States.RICH, but so narrow that parts 1 and 3 have no laying. */
    private static final Supplier<PageTurns> NARROW = () -> {
        PageTurns x = States.RICH.get();
        x.rule(0, 35);
        return x;
    };

    public static void main(String[] args) throws IOException {
        line();
        page();
        best();
        laid();
        ends();
        stop();
        hearts();
        folds();
        needs();
        together();
        all();
        E.finish("12", "13", "14", "15", "16", "17", "18", "19", "20", "21", "22");
    }

    /** Each bar is a page of its own: at no size do two of them fit into a line. */
    private static PageTurns pageABar(String text) {
        PageTurns x = Check.with(text);
        x.rule(1, 1);
        return x;
    }

    private static void line() {
        E.says("12", "COST of a LINE from a BAR to another one (that isn't less).");
        PageTurns x = Check.with("busy 50 busy 10 wish busy 60 letter");
        E.due("to the same one", x.line(0, 0, 0, 0), 10);
        E.due("to the next one", x.line(0, 0, 1, 0), -5);
        E.due("the last", x.line(0, 2, 2, 0), 0);
        E.due("the last, at size 2", x.line(0, 2, 2, 2), 80);
        E.keeps(States.RICH, "line(0, 2, 2, 0)", "line(3, 0, 0, 2)", "line(0, 5, 6, 1)");

        E.says("12", "BEYOND.");
        E.refused(States.RICH, "line(?, 2, 2, 0)", BEYOND, Edges.NO_PART);
        E.refused(States.RICH, "line(2, 0, 0, 0)", BEYOND);
        E.refused(States.RICH, "line(0, ?, 2, 0)", BEYOND, -1, 3, 7, 40, MIN, MAX);
        E.refused(States.RICH, "line(0, 2, ?, 0)", BEYOND, -1, 1, 7, 40, MIN, MAX);
        E.refused(States.RICH, "line(0, ?, 6, 0)", BEYOND, -1, 7, MIN, MAX);
        E.refused(States.RICH, "line(0, ?, ?, 0)", BEYOND, -1, 7, 40, MIN, MAX);
        E.refused(States.RICH, "line(0, 2, 2, ?)", BEYOND, -1, 3, MIN, MAX);
        E.refused(States.FULL, "line(3, 39, ?, 0)", BEYOND, 38, 40);

        E.says("12", "KIND: it is too wide.");
        PageTurns y = Check.with("busy 50 busy 10 busy 1 busy 20");
        E.due("60", y.line(0, 0, 1, 0), 0);
        E.due("61", y.line(0, 0, 2, 0), Check.KIND);
        E.due("61, 49 at size 1", y.line(0, 0, 2, 1), 12 + 20);
        E.due("81, 65 at size 1", y.line(0, 0, 3, 1), Check.KIND);
        E.due("81, 49 at size 2", y.line(0, 0, 3, 2), 80);
        E.refused(States.RICH, "line(0, 0, 3, 0)", Check.KIND);
        E.refused(States.RICH, "line(0, 0, 6, 2)", Check.KIND);
        E.refused(NARROW, "line(1, 0, 0, 2)", Check.KIND);

        E.says("12", "STATE: its last BAR is KEEP (and not the last of the PART).");
        PageTurns z = Check.with("busy 20 keep busy 20 busy 20 keep");
        E.due("keep", z.line(0, 0, 0, 0), Check.STATE);
        E.due("the last of the part", z.line(0, 2, 2, 0), 0);
        E.due("from a bar that is keep", z.line(0, 0, 1, 0), 40);
        E.refused(States.RICH, "line(0, 0, 0, 0)", Check.STATE);
        E.refused(States.RICH, "line(0, 0, 0, 2)", Check.STATE);
    }

    private static void page() {
        E.says("13", "The least COST of a PAGE (without PAPER) from a BAR to another one (that isn't less).");
        PageTurns x = Check.with("busy 30 busy 20 busy 10 busy 40 busy 5");
        // Lines 30 20 10 | 40: 0 and 40; 30 20 | 10 40: 10 and 10; 30 | 20 10 | 40: more.
        E.due("two lines", x.page(0, 0, 3, 0), 20);
        E.due("one line", x.page(0, 0, 2, 0), 0);
        E.due("one bar", x.page(0, 0, 0, 0), 90);
        E.due("the last bar", x.page(0, 4, 4, 0), 0);
        E.due("all", x.page(0, 0, 4, 0), 0);
        x.rule(4, 999);
        E.due("without paper", x.page(0, 0, 4, 0), 0);
        E.keeps(States.RICH, "page(0, 2, 2, 0)", "page(3, 0, 0, 2)");

        E.says("13", "BEYOND.");
        E.refused(States.RICH, "page(?, 2, 2, 0)", BEYOND, Edges.NO_PART);
        E.refused(States.RICH, "page(2, 0, 0, 0)", BEYOND);
        E.refused(States.RICH, "page(0, ?, 2, 0)", BEYOND, -1, 3, 7, 40, MIN, MAX);
        E.refused(States.RICH, "page(0, 2, ?, 0)", BEYOND, -1, 1, 7, 40, MIN, MAX);
        E.refused(States.RICH, "page(0, ?, ?, 0)", BEYOND, -1, 7, 40, MIN, MAX);
        E.refused(States.RICH, "page(0, 2, 2, ?)", BEYOND, -1, 3, MIN, MAX);
        E.refused(States.FULL, "page(3, 39, ?, 0)", BEYOND, 38, 40);

        E.says("13", "NONE: there is none such.");
        PageTurns y = Check.with("busy 60 busy 60 keep busy 60 busy 60");
        E.due("three lines: the second would end with keep", y.page(0, 0, 2, 0), NONE);
        y.rule(0, 120);
        E.due("two lines", y.page(0, 0, 2, 0), 360);
        E.due("the last would end with keep", y.page(0, 0, 1, 0), NONE);
        y.change(0, 1, 3, 0);
        y.rule(0, 60);
        E.due("three lines", y.page(0, 0, 2, 0), 0);
        E.due("four lines", y.page(0, 0, 3, 0), NONE);
        y.rule(0, 59);
        E.due("too wide", y.page(0, 0, 0, 0), NONE);
        E.due("at size 1 not", y.page(0, 0, 0, 1), 12 + 20);
        E.refused(States.RICH, "page(0, 0, 6, 0)", NONE);
        E.refused(States.RICH, "page(0, 0, 0, 0)", NONE);
        E.refused(NARROW, "page(1, 0, 0, 2)", NONE);
    }

    private static void best() {
        E.says("14", "Of THE LAYING: what 0 STOPS, 1 COST, 2 PAGES, 3 LINES, 4 TURNS.");
        PageTurns x = Check.with("8(busy 30 beats 1)busy 10");
        x.rule(1, 2);
        // Pages of one line and of two, and two lines that end the part.
        int[] want = {1, 150, 3, 5, 1};
        for (int what = 0; what < 5; what++) {
            E.due(x, "best(0, " + what + ")", want[what]);
        }
        PageTurns full = pageABar("8(5(busy 60))");
        int[] most = {20, 2000, 40, 40, 20};
        for (int what = 0; what < 5; what++) {
            E.due(full, "best(0, " + what + ")", most[what]);
        }
        PageTurns one = Check.with("busy 60");
        int[] least = {0, 50, 1, 1, 0};
        for (int what = 0; what < 5; what++) {
            E.due(one, "best(0, " + what + ")", least[what]);
        }
        // A short part behind a long one, and the other way.
        PageTurns two = pageABar("8(5(busy 60))");
        Check.read(two, 1, "3(busy 60)");
        for (int round = 0; round < 2; round++) {
            two.rule(4, 10 + round);
            E.due("the long one", two.best(0, 1), 400 + 40 * round);
            E.due("the short one", two.best(1, 1), 30 + 3 * round);
        }
        // Two pages are cheaper, though the long part has more stops behind its bar 2.
        PageTurns three = pageABar("8(5(busy 60))");
        Check.read(three, 1, "free 40 busy 20");
        three.rule(0, 45);
        three.rule(4, 77);
        E.due("the long one", three.best(0, 0), 20);
        E.due("the short one", three.best(1, 1), 156);
        E.due("its pages", three.best(1, 2), 2);
        E.keeps(States.RICH, "best(0, 0)", "best(1, 1)", "best(3, 4)");

        E.says("14", "BEYOND.");
        E.refused(States.RICH, "best(?, 0)", BEYOND, Edges.NO_PART);
        E.refused(States.RICH, "best(0, ?)", BEYOND, -1, 5, MIN, MAX);
        E.refused(States.RICH, "best(2, ?)", BEYOND, -1, 5, MIN, MAX);

        E.says("14", "NONE: there is none (without BARS, too).");
        for (int what = 0; what < 5; what++) {
            E.refused(States.NEW, "best(3, " + what + ")", NONE);
            E.refused(States.RICH, "best(2, " + what + ")", NONE);
            E.refused(NARROW, "best(1, " + what + ")", NONE);
        }
        PageTurns y = Check.with("busy 20 busy 60 busy 20");
        y.rule(0, 36);
        E.due("the widest just fits", y.best(0, 2) > 0 ? 1 : 0, 1);
        y.rule(0, 35);
        E.due("the widest doesn't", y.best(0, 2), NONE);
        // Each bar fits, but none but the last may end a line.
        PageTurns z = Check.with("3(busy 40 keep)");
        z.rule(0, 72);
        E.due("all in one line at size 2", z.best(0, 3), 1);
        z.rule(0, 71);
        E.due("no line", z.best(0, 3), NONE);
        z.cut(0, 0, 3);
        E.due("no bars more", z.best(0, 3), NONE);
    }

    private static void laid() {
        E.says("15", "Of PAGE i of THE LAYING: what 0 its first BAR, 1 its last one, 2 SIZE, 3 how many LINES, "
                + "4 COST (without PAPER),");
        PageTurns x = Check.with("3(busy 50)busy 40 busy 50 wish");
        x.rule(1, 2);
        x.rule(2, 0);
        // Pages of 1, 2 and 2 bars, each a line.
        int[][] pages = {{0, 0, 0, 1, 10}, {1, 2, 0, 2, 20}, {3, 4, 0, 2, 40 - 5}};
        for (int i = 0; i < 3; i++) {
            for (int what = 0; what < 5; what++) {
                E.due(x, "laid(0, " + i + ", " + what + ")", pages[i][what]);
            }
        }
        PageTurns small = Check.with("busy 60");
        small.rule(0, 48);
        E.due("size 1", small.laid(0, 0, 2), 1);
        small.rule(0, 47);
        E.due("size 2", small.laid(0, 0, 2), 2);
        E.due("its cost", small.laid(0, 0, 4), 80);
        small.rule(0, 48);
        E.due("size 1 again", small.laid(0, 0, 2), 1);
        E.due("still one line", small.laid(0, 0, 3), 1);
        E.keeps(States.RICH, "laid(0, 0, 4)", "laid(1, 1, 1)");

        E.says("15", "5 1 if there is a TURN behind it, 2 if that is a STOP, else 0.");
        PageTurns y = pageABar("free 60 busy 60 busy 60 beats 1 busy 60 beats 1 busy 60");
        int[] behind = {1, 0, 2, 0, 0};
        for (int i = 0; i < 5; i++) {
            E.due(y, "laid(0, " + i + ", 5)", behind[i]);
        }
        y.set(0, 3, 5);
        E.due("folded", y.laid(0, 0, 5), 0);
        E.due("folded", y.laid(0, 2, 5), 0);

        E.says("15", "BEYOND: part, i below 0, what.");
        E.refused(States.RICH, "laid(?, 0, 0)", BEYOND, Edges.NO_PART);
        E.refused(States.RICH, "laid(0, ?, 0)", BEYOND, -1, MIN);
        E.refused(States.RICH, "laid(0, 0, ?)", BEYOND, -1, 6, MIN, MAX);
        E.refused(States.RICH, "laid(2, -1, 0)", BEYOND);
        E.refused(States.RICH, "laid(2, 0, ?)", BEYOND, -1, 6);

        E.says("15", "NONE: there is no such PAGE.");
        PageTurns full = pageABar("8(5(busy 60))");
        E.due("the last of 40", full.laid(0, 39, 0), 39);
        E.due("none behind it", full.laid(0, 40, 0), NONE);
        PageTurns one = Check.with("busy 60");
        E.due("one", one.laid(0, 0, 0), 0);
        E.due("none behind it", one.laid(0, 1, 0), NONE);
        E.refused(States.RICH, "laid(0, ?, 0)", NONE, 7, 40, MAX);
        E.refused(States.RICH, "laid(2, ?, 5)", NONE, 0, MAX);
        E.refused(States.NEW, "laid(0, 0, 0)", NONE);
        E.refused(NARROW, "laid(1, 0, 0)", NONE);
    }

    private static void ends() {
        E.says("16", "The last BAR of LINE i (from 0, over all PAGES) of THE LAYING.");
        PageTurns x = Check.with("8(busy 30 beats 1)busy 10");
        x.rule(1, 2);
        int[] ends = {1, 3, 5, 7, 8};
        for (int i = 0; i < 5; i++) {
            E.due(x, "ends(0, " + i + ")", ends[i]);
        }
        PageTurns full = Check.with("8(5(busy 60))");
        full.rule(2, 0);
        for (int i = 0; i < 40; i++) {
            E.due(full, "ends(0, " + i + ")", i);
        }
        E.keeps(States.RICH, "ends(0, 0)", "ends(3, 2)");

        E.says("16", "BEYOND: part, i below 0.");
        E.refused(States.RICH, "ends(?, 0)", BEYOND, Edges.NO_PART);
        E.refused(States.RICH, "ends(0, ?)", BEYOND, -1, MIN);
        E.refused(States.RICH, "ends(2, ?)", BEYOND, -1, MIN);

        E.says("16", "NONE: there is none such.");
        E.due("none behind the last", x.ends(0, 5), NONE);
        E.due("none behind the last of 40", full.ends(0, 40), NONE);
        E.refused(States.RICH, "ends(3, ?)", NONE, 3, 40, MAX);
        E.refused(States.RICH, "ends(2, ?)", NONE, 0, MAX);
        E.refused(States.NEW, "ends(0, 0)", NONE);
        E.refused(NARROW, "ends(1, 0)", NONE);
    }

    private static void stop() {
        E.says("17", "The BAR behind which is the i-th STOP (from 0) of THE LAYING.");
        PageTurns full = pageABar("8(5(busy 60))");
        for (int i = 0; i < 20; i++) {
            E.due(full, "stop(0, " + i + ")", 2 * i);
        }
        PageTurns x = pageABar("busy 60 busy 60 free 60 busy 60 busy 60 busy 60 busy 60");
        E.due("behind bar 0", x.stop(0, 0), 0);
        E.due("a safe turn is left out", x.stop(0, 1), 4);
        E.keeps(States.FULL, "stop(0, 0)");

        E.says("17", "BEYOND: part, i below 0.");
        E.refused(States.RICH, "stop(?, 0)", BEYOND, Edges.NO_PART);
        E.refused(States.RICH, "stop(0, ?)", BEYOND, -1, MIN);
        E.refused(States.RICH, "stop(2, ?)", BEYOND, -1, MIN);

        E.says("17", "NONE.");
        E.due("none behind the last", full.stop(0, 20), NONE);
        E.due("none behind the last", x.stop(0, 2), NONE);
        x.rule(2, 0);
        E.due("no stop", x.stop(0, 0), NONE);
        E.refused(States.RICH, "stop(1, ?)", NONE, 2, 40, MAX);
        E.refused(States.RICH, "stop(2, ?)", NONE, 0, MAX);
        E.refused(States.NEW, "stop(0, 0)", NONE);
        E.refused(NARROW, "stop(1, 0)", NONE);
    }

    private static void hearts() {
        E.says("18", "The fewest HEARTS (0 to 8), all else as it is, with which THE LAYING has no STOP.");
        // One turn, behind page 0; each of the next bars is worth 100.
        PageTurns x = pageABar("9(busy 60 beats 1)busy 60 beats 1");
        x.set(0, 3, 4 + 16 + 64 + 256);
        for (int h = 0; h <= 8; h++) {
            x.rule(2, 100 * h);
            E.due("hearts(0) with need " + 100 * h, x.hearts(0), h);
            if (h < 8) {
                x.rule(2, 100 * h + 1);
                E.due("hearts(0) with need " + 100 * h + " and 1", x.hearts(0), h + 1);
            }
        }
        x.rule(2, 300);
        E.due("hearts are as they were", x.set(0, 1, 7), 0);
        E.due("what is told is no matter", x.hearts(0), 3);
        E.due("hearts are as they were", x.set(0, 1, 0), 7);
        x.set(0, 2, 1);
        Check.read(x, 1, "free 1 beats 3");
        E.due("the neighbour counts", x.hearts(0), 0);
        x.set(0, 2, -1);
        x.set(0, 3, 1023);
        E.due("no turn", x.hearts(0), 0);
        E.due("one page", Check.with("busy 60").hearts(0), 0);
        PageTurns forty = pageABar("8(5(busy 60 beats 1))");
        forty.rule(2, 100);
        E.due("forty pages", forty.hearts(0), 1);
        forty.rule(2, 101);
        E.due("one bar alone is behind the last turn", forty.hearts(0), NONE);
        E.keeps(States.RICH, "hearts(0)");

        E.says("18", "BEYOND.");
        E.refused(States.RICH, "hearts(?)", BEYOND, Edges.NO_PART);
        E.refused(States.NEW, "hearts(?)", BEYOND, Edges.NO_PART);

        E.says("18", "NONE: not even 8, or there is no LAYING.");
        x.set(0, 3, 4 + 16 + 64 + 256);
        x.rule(2, 800);
        E.due("just 8", x.hearts(0), 8);
        x.rule(2, 801);
        E.due("not even 8", x.hearts(0), NONE);
        Supplier<PageTurns> never = () -> {
            PageTurns n = States.RICH.get();
            n.rule(2, 999);
            return n;
        };
        E.refused(never, "hearts(1)", NONE);
        E.refused(States.NEW, "hearts(0)", NONE);
        E.refused(States.RICH, "hearts(2)", NONE);
        E.refused(NARROW, "hearts(1)", NONE);
    }

    private static void folds() {
        E.says("19", "The fewest FOLDS of PAGES 0, 2, 4, 6, 8 (as a set, in place of those that are told) "
                + "with which THE LAYING has no STOP;");
        PageTurns x = pageABar("busy 60");
        int[] sets = {0, 1, 1, 5, 5, 21, 21, 85, 85, 341, 341};
        for (int pages = 1; pages <= 11; pages++) {
            E.due("of " + pages + " pages", x.folds(0), sets[pages - 1]);
            Check.read(x, 0, "busy 60");
        }
        PageTurns y = pageABar("4(busy 60)");
        E.due("folds", y.folds(0), 5);
        E.due("those that are told are as they were", y.set(0, 3, 1023), 0);
        E.due("in place of those that are told", y.folds(0), 5);
        E.due("those that are told are as they were", y.set(0, 3, 0), 1023);
        y.rule(2, 0);
        E.due("no stop without any", y.folds(0), 0);
        // Behind bars 0, 3 and 4 a hand is free: one fold, of page 4, or two, of 0 and 2.
        PageTurns z = Check.with("free 60 3(busy 60)free 60 5(busy 60)");
        z.rule(1, 2);
        E.due("the fewest, not the least set", z.folds(0), 16);
        E.keeps(States.RICH, "folds(0)", "folds(1)");

        E.says("19", "of several the least set.");
        PageTurns w = Check.with("2(busy 60)free 60 4(busy 60)");
        w.rule(1, 2);
        w.rule(2, 400);
        E.due("the least", w.folds(0), 1);
        w.set(0, 3, 4);
        E.due("another would do", w.best(0, 0), 0);

        E.says("19", "BEYOND.");
        E.refused(States.RICH, "folds(?)", BEYOND, Edges.NO_PART);
        E.refused(States.NEW, "folds(?)", BEYOND, Edges.NO_PART);

        E.says("19", "NONE.");
        E.due("page 10 of 12 can't fold", x.folds(0), NONE);
        x.cut(0, 11, 1);
        E.due("page 10 of 11 is the last", x.folds(0), 341);
        // Behind page 10 a hand is free, behind page 12 none is.
        PageTurns late = pageABar("5(2(busy 60))free 60 busy 60 busy 60");
        E.due("page 12 of 13 is the last", late.folds(0), 341);
        Check.read(late, 0, "busy 60");
        E.due("page 12 of 14 can't fold", late.folds(0), NONE);
        late.change(0, 12, 1, 2);
        E.due("nor need it where a hand is free", late.folds(0), 341);
        E.refused(States.FULL, "folds(0)", NONE);
        E.refused(States.NEW, "folds(0)", NONE);
        E.refused(States.RICH, "folds(2)", NONE);
        E.refused(NARROW, "folds(1)", NONE);
    }

    private static void needs() {
        E.says("20", "The least NEED for which there is a STOP in THE LAYING, all else as it is (1 to 999).");
        PageTurns x = pageABar("2(busy 60)busy 60");
        E.due("the least: nothing is free", x.needs(0), 1);
        x.change(0, 0, 1, 1);
        E.due("200 free", x.needs(0), 201);
        E.due("need is as it was", x.rule(2, 999), 150);
        E.due("what is told is no matter", x.needs(0), 201);
        E.due("need is as it was", x.rule(2, 0), 999);
        E.due("what is told is no matter", x.needs(0), 201);
        x.set(0, 1, 1);
        E.due("600 free by heart", x.needs(0), 601);
        x.set(0, 2, 1);
        Check.read(x, 1, "free 1 beats 9");
        E.due("900 free of the neighbour", x.needs(0), 901);
        // The greatest that there can be: 39 beats at 235 are 995, 40 at 240 are 1000.
        PageTurns y = pageABar("3(free 60 beats 12)free 60 beats 3");
        y.set(0, 0, 235);
        E.due("995 free", y.needs(0), 996);
        y.set(0, 0, 240);
        E.due("975 free", y.needs(0), 976);
        // One of two turns has less.
        PageTurns z = pageABar("free 60 beats 5 busy 60 free 60 beats 2 busy 60 busy 60");
        E.due("200 and 500", z.needs(0), 201);
        E.keeps(States.RICH, "needs(0)", "needs(1)");

        E.says("20", "BEYOND.");
        E.refused(States.RICH, "needs(?)", BEYOND, Edges.NO_PART);
        E.refused(States.NEW, "needs(?)", BEYOND, Edges.NO_PART);

        E.says("20", "NONE: not even with 999, or there is no LAYING.");
        y.set(0, 0, 234);
        E.due("1000 free", y.needs(0), NONE);
        Supplier<PageTurns> always = () -> {
            PageTurns a = States.RICH.get();
            a.set(1, 3, 1023);
            return a;
        };
        E.refused(always, "needs(1)", NONE);
        x.set(0, 3, 1);
        E.due("no turn", x.needs(0), NONE);
        E.due("one page", Check.with("busy 60").needs(0), NONE);
        E.refused(States.NEW, "needs(0)", NONE);
        E.refused(States.RICH, "needs(2)", NONE);
        E.refused(NARROW, "needs(1)", NONE);
    }

    private static void together() {
        E.says("21", "How many TURNS of THE LAYINGS of two PARTS fall behind a BAR of one and the same number.");
        PageTurns x = pageABar("8(5(busy 60))");
        Check.read(x, 1, "8(5(free 60))");
        E.due("stops and other turns: 20", x.together(0, 1), 20);
        E.due("the other way", x.together(1, 0), 20);
        x.set(1, 3, 1);
        E.due("one is folded", x.together(0, 1), 19);
        Check.read(x, 2, "busy 60");
        E.due("one without turns", x.together(0, 2), 0);
        Check.read(x, 3, "busy 30 busy 30 busy 60");
        E.due("turns behind others: 1, not 0 or 2", x.laid(3, 0, 1), 1);
        E.due("none", x.together(0, 3), 0);
        E.keeps(States.RICH, "together(0, 1)", "together(3, 0)");

        E.says("21", "BEYOND: also one and the same PART.");
        E.refused(States.RICH, "together(?, 0)", BEYOND, -1, 4, 0, MIN, MAX);
        E.refused(States.RICH, "together(0, ?)", BEYOND, -1, 4, 0, MIN, MAX);
        E.refused(States.RICH, "together(?, ?)", BEYOND, 0, 1, 2, 3, -1, 4, MIN, MAX);

        E.says("21", "NONE: one has no LAYING.");
        E.refused(States.RICH, "together(0, 2)", NONE);
        E.refused(States.RICH, "together(2, 0)", NONE);
        E.refused(States.NEW, "together(0, 3)", NONE);
        E.refused(NARROW, "together(0, 1)", NONE);
        E.refused(NARROW, "together(1, 3)", NONE);
    }

    private static void all() {
        E.says("22", "Of all PARTS that have a LAYING:");
        PageTurns x = new PageTurns();
        for (int what = 0; what < 4; what++) {
            E.due("none has: all(" + what + ")", x.all(what), 0);
        }
        E.due("that is no finding", x.status(-1), 0);
        Check.read(x, 3, "2(busy 60)");
        Check.read(x, 1, "2(busy 30)");
        x.rule(0, 35);
        x.rule(1, 1);
        E.due("bars of 60 fit no line", x.best(3, 1), NONE);
        int[] ofPartOne = {1, 2 + 2 * 50, 0, 1};
        for (int what = 0; what < 4; what++) {
            E.due("part 1 alone: all(" + what + ")", x.all(what), ofPartOne[what]);
        }
        E.keeps(States.RICH, "all(0)", "all(1)", "all(2)", "all(3)");
        E.keeps(NARROW, "all(0)", "all(1)", "all(2)", "all(3)");

        E.says("22", "what 0 STOPS together, 1 COSTS together,");
        PageTurns y = pageABar("8(5(busy 60))");
        for (int p = 1; p < 4; p++) {
            Check.read(y, p, "8(5(busy 60))");
        }
        y.rule(4, 999);
        E.due("80 stops", y.all(0), 80);
        E.due("160 pages", y.all(1), 159840);
        y.set(2, 3, 1);
        E.due("79 stops", y.all(0), 79);

        E.says("22", "2 at how many numbers of BARS two or more PARTS have a TURN,");
        E.due("20 numbers", y.all(2), 20);
        y.cut(0, 1, 39);
        y.cut(1, 1, 39);
        E.due("two parts are left", y.all(2), 19);
        y.cut(2, 1, 39);
        E.due("one part is left", y.all(2), 0);

        E.says("22", "3 the greatest number of PARTS that have one at one number.");
        E.due("one part is left", y.all(3), 1);
        Check.read(y, 0, "busy 60");
        Check.read(y, 1, "busy 60");
        E.due("three", y.all(3), 3);
        y.set(2, 3, 0);
        Check.read(y, 2, "busy 60");
        E.due("four", y.all(3), 4);
        for (int p = 0; p < 4; p++) {
            y.cut(p, 0, p == 3 ? 39 : 1);
        }
        E.due("none", y.all(3), 0);

        E.says("22", "BEYOND.");
        E.refused(States.RICH, "all(?)", BEYOND, -1, 4, MIN, MAX);
        E.refused(States.NEW, "all(?)", BEYOND, -1, 4);
    }
}
