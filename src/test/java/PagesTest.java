/** Promises 12 to 22: lines, pages, layings, and what would mend them. */
public final class PagesTest {
    private static final Check C = new Check("PagesTest");
    private static final int BEYOND = Check.BEYOND;
    private static final int KIND = Check.KIND;
    private static final int NONE = Check.NONE;
    private static final int STATE = Check.STATE;

    public static void main(String[] args) {
        line();
        page();
        bestWithoutBars();
        stopsGoAheadOfCost();
        paperAndPages();
        firstOfSeveral();
        laidOverPages();
        foldsAndLastPage();
        lateFolds();
        neighbour();
        hearts();
        folds();
        needs();
        together();
        all();
        oldLayingsAreForgotten();
        wrongArguments();
        C.finish();
    }

    private static void line() {
        PageTurns x = Check.with("busy 20 letter busy 15 letter keep busy 10 wish letter busy 30 busy 31 keep");
        x.rule(3, 7);
        C.due("line(0, 0, 0, 0)", x.line(0, 0, 0, 0), 160);
        C.due("the first letter is free", x.line(0, 2, 2, 0), 250 - 5);
        C.due("line(0, 0, 2, 0)", x.line(0, 0, 2, 0), 22 - 5 + 14);
        C.due("line(0, 0, 2, 2)", x.line(0, 0, 2, 2), 108 + 80 - 5 + 14);
        C.due("line(0, 1, 3, 0): it fits just so", x.line(0, 1, 3, 0), 2 + 7);
        C.due("line(0, 3, 4, 0): too wide by 1", x.line(0, 3, 4, 0), KIND);
        C.due("line(0, 3, 4, 1): it ends the part", x.line(0, 3, 4, 1), 20);
        C.due("line(0, 4, 4, 0): keep, but the last", x.line(0, 4, 4, 0), 0);
        C.due("line(0, 0, 1, 0): keep", x.line(0, 0, 1, 0), STATE);
        x.rule(0, 34);
        C.due("too wide goes ahead of keep", x.line(0, 0, 1, 0), KIND);
        x.rule(0, 35);
        C.due("it is as wide as it may be", x.line(0, 0, 1, 0), STATE);
        C.due("to below from", x.line(0, 2, 1, 0), BEYOND);
        C.due("to too far", x.line(0, 0, 5, 0), BEYOND);
        C.due("from below 0", x.line(0, -1, 0, 0), BEYOND);
        C.due("size 3", x.line(0, 0, 0, 3), BEYOND);
        C.due("part 4", x.line(4, 0, 0, 0), BEYOND);
        C.due("status: BEYOND", x.status(0), 5);
        C.due("status: KIND", x.status(2), 2);
        C.due("status: STATE", x.status(4), 2);
    }

    private static void page() {
        PageTurns x = Check.with("busy 30 busy 20 busy 10 keep busy 40 busy 5");
        // Lines of 50 and 50; behind 60 is keep.
        C.due("page(0, 0, 3, 0)", x.page(0, 0, 3, 0), 20);
        C.due("page(0, 0, 1, 0)", x.page(0, 0, 1, 0), 10);
        C.due("page(0, 0, 2, 0) ends with keep", x.page(0, 0, 2, 0), NONE);
        C.due("page(0, 0, 4, 0)", x.page(0, 0, 4, 0), 10);
        x.rule(1, 1);
        C.due("one line is too wide", x.page(0, 0, 3, 0), NONE);
        C.due("one line", x.page(0, 3, 4, 0), 0);
        C.due("to below from", x.page(0, 2, 1, 0), BEYOND);
        C.due("bar 5", x.page(0, 2, 5, 0), BEYOND);
        C.due("size -1", x.page(0, 0, 0, -1), BEYOND);
        C.due("part -1", x.page(-1, 0, 0, 0), BEYOND);
        PageTurns y = Check.with("busy 30 busy 34");
        y.rule(0, 20);
        C.due("a bar that fits no line", y.page(0, 0, 0, 0), NONE);
        C.due("a bar that fits at size 2", y.page(0, 0, 0, 2), 80);
        C.due("best: one fits at no size", y.best(0, 0), NONE);
        y.rule(0, 24);
        C.due("all at size 2, without a stop", y.best(0, 2), 1);
        C.due("size", y.laid(0, 0, 2), 2);
        C.due("cost", y.best(0, 1), 3 + 80 + 80 + 50);
        y.rule(2, 0);
        C.due("a page of its own for each", y.best(0, 2), 2);
        C.due("size", y.laid(0, 0, 2), 1);
        C.due("size", y.laid(0, 1, 2), 2);
        C.due("cost", y.best(0, 1), 20 + 80 + 100);
    }

    private static void bestWithoutBars() {
        PageTurns x = new PageTurns();
        for (int what = 0; what < 5; what++) {
            C.due("best(0, " + what + ")", x.best(0, what), NONE);
        }
        C.due("laid", x.laid(0, 0, 0), NONE);
        C.due("ends", x.ends(0, 0), NONE);
        C.due("stop", x.stop(0, 0), NONE);
        C.due("hearts", x.hearts(0), NONE);
        C.due("folds", x.folds(0), NONE);
        C.due("needs", x.needs(0), NONE);
        C.due("status of NONE", x.status(3), 11);
    }

    /** A dear laying without a stop is ahead of a cheap one with a stop. */
    private static void stopsGoAheadOfCost() {
        PageTurns x = Check.with("busy 20 free 20 busy 20 busy 20 busy 20 busy 20");
        x.rule(1, 1);
        x.rule(4, 0);
        C.due("stops", x.best(0, 0), 0);
        C.due("page 0 ends where a hand is free", x.laid(0, 0, 1), 1);
        C.due("cost", x.best(0, 1), 40 + 0 + 0);
        C.due("pages", x.best(0, 2), 3);
        C.due("turns", x.best(0, 4), 1);
        C.due("what is behind page 0", x.laid(0, 0, 5), 1);
        x.rule(2, 401);
        C.due("now one must stop", x.best(0, 0), 1);
        C.due("so the cheapest is taken", x.best(0, 1), 0);
        C.due("page 0", x.laid(0, 0, 1), 2);
        C.due("where", x.stop(0, 0), 2);
        C.due("no more", x.stop(0, 1), NONE);
        C.due("what is behind page 0", x.laid(0, 0, 5), 2);
        C.due("what is behind page 1", x.laid(0, 1, 5), 0);
        x.rule(2, 400);
        C.due("just enough", x.best(0, 0), 0);
    }

    private static void paperAndPages() {
        PageTurns x = Check.with("busy 60 busy 60 busy 60");
        x.rule(2, 0);
        C.due("one page", x.best(0, 2), 1);
        C.due("cost", x.best(0, 1), 50);
        C.due("lines", x.best(0, 3), 3);
        x.rule(4, 0);
        C.due("paper for nothing: still fewest pages", x.best(0, 2), 1);
        C.due("cost", x.best(0, 1), 0);
        x.rule(1, 2);
        C.due("two lines a page", x.best(0, 2), 2);
        C.due("of several the one with fewer bars first", x.laid(0, 0, 1), 0);
        x.rule(4, 999);
        C.due("paper", x.best(0, 1), 1998);
        C.due("without paper", x.laid(0, 0, 4), 0);
    }

    private static void firstOfSeveral() {
        PageTurns x = Check.with("busy 5 busy 5 busy 5 busy 5");
        x.rule(0, 20);
        x.rule(1, 2);
        C.due("one line is the cheapest", x.best(0, 3), 1);
        x.change(0, 0, 3, 4);
        x.change(0, 1, 3, 4);
        x.change(0, 2, 3, 4);
        x.change(0, 3, 3, 4);
        C.due("line(0, 0, 2, 0): 5 wasted are 2", x.line(0, 0, 2, 0), 2 - 5);
        C.due("cost", x.best(0, 1), 50 - 3 - 5);
        C.due("ends", x.ends(0, 0), 2);
        PageTurns y = Check.with("busy 10 busy 10 busy 10 busy 10 busy 10 busy 10");
        y.rule(0, 20);
        y.rule(4, 0);
        y.rule(2, 0);
        C.due("one page", y.best(0, 2), 1);
        C.due("lines of two", y.ends(0, 0), 1);
        // All lines of two cost 0, those of one 10, but the last one 0:
        // five bars can be laid 2 2 1 only.
        y.cut(0, 5, 1);
        C.due("2", y.ends(0, 0), 1);
        C.due("2", y.ends(0, 1), 3);
        C.due("1", y.ends(0, 2), 4);
        // With 20s all lines hold one bar; pages of 1 and 2 or 2 and 1.
        PageTurns z = Check.with("3(busy 20)");
        z.rule(0, 20);
        z.rule(1, 2);
        z.rule(2, 0);
        C.due("fewer bars first", z.laid(0, 0, 1), 0);
        C.due("then the rest", z.laid(0, 1, 3), 2);
        PageTurns w = Check.with("busy 30 busy 20");
        w.rule(0, 45);
        w.rule(1, 1);
        w.rule(4, 20);
        // Two pages of size 0: 22 + 0 + 40; one page of size 1: 20 + 20.
        C.due("smaller is cheaper", w.laid(0, 0, 2), 1);
        C.due("cost", w.best(0, 1), 40);
        // Lines 1 + 2 and 2 + 1 cost the same: the shorter line goes first.
        PageTurns v = Check.with("busy 10 wish busy 10 busy 10 wish");
        v.rule(0, 22);
        C.due("1 then 2 is 14 - 5 - 5, 2 then 1 is 0 - 5", v.page(0, 0, 2, 0), -5);
        v.rule(0, 20);
        v.change(0, 0, 3, 0);
        v.change(0, 1, 3, 0);
        v.rule(3, 10);
        v.change(0, 1, 3, 2);
        C.due("1 and 2: 10 + 0; 2 and 1: 10 + 0", v.best(0, 1), 50 + 10 - 5);
        C.due("the first line has fewer bars", v.ends(0, 0), 0);
    }

    private static void laidOverPages() {
        PageTurns x = Check.with("8(busy 30 beats 1)busy 10");
        x.rule(1, 2);
        C.due("pages", x.best(0, 2), 3);
        C.due("lines", x.best(0, 3), 5);
        C.due("stops", x.best(0, 0), 1);
        C.due("turns", x.best(0, 4), 1);
        C.due("cost", x.best(0, 1), 150);
        int[][] pages = {{0, 1, 0, 1, 0, 2}, {2, 5, 0, 2, 0, 0}, {6, 8, 0, 2, 0, 0}};
        for (int i = 0; i < 3; i++) {
            for (int what = 0; what < 6; what++) {
                C.due("laid(0, " + i + ", " + what + ")", x.laid(0, i, what), pages[i][what]);
            }
        }
        C.due("page 3", x.laid(0, 3, 0), NONE);
        C.due("page far", x.laid(0, Integer.MAX_VALUE, 0), NONE);
        C.due("page -1", x.laid(0, -1, 0), BEYOND);
        C.due("what 6", x.laid(0, 0, 6), BEYOND);
        C.due("what -1", x.laid(0, 0, -1), BEYOND);
        C.due("BEYOND goes ahead of NONE", x.laid(0, 9, 6), BEYOND);
        int[] ends = {1, 3, 5, 7, 8};
        for (int i = 0; i < 5; i++) {
            C.due("ends(0, " + i + ")", x.ends(0, i), ends[i]);
        }
        C.due("line 5", x.ends(0, 5), NONE);
        C.due("line far", x.ends(0, Integer.MAX_VALUE), NONE);
        C.due("line -1", x.ends(0, -1), BEYOND);
        C.due("the stop", x.stop(0, 0), 1);
        C.due("no other", x.stop(0, 1), NONE);
        C.due("stop far", x.stop(0, Integer.MAX_VALUE), NONE);
        C.due("stop -1", x.stop(0, -1), BEYOND);
    }

    /** One bar a page: turns behind pages 0, 2, 4, .., but not behind the last. */
    private static PageTurns onePageABar(int bars) {
        PageTurns x = new PageTurns();
        for (int b = 0; b < bars; b++) {
            Check.read(x, 0, "busy 60 beats 1");
        }
        x.rule(0, 60);
        x.rule(1, 1);
        // At size 1 and 2 two bars are still wider than a line.
        return x;
    }

    private static void foldsAndLastPage() {
        PageTurns x = onePageABar(5);
        C.due("pages", x.best(0, 2), 5);
        C.due("turns behind 0 and 2, not behind the last", x.best(0, 4), 2);
        C.due("stops", x.best(0, 0), 2);
        C.due("stop 0", x.stop(0, 0), 0);
        C.due("stop 1", x.stop(0, 1), 2);
        C.due("behind page 1", x.laid(0, 1, 5), 0);
        C.due("behind page 4", x.laid(0, 4, 5), 0);
        x.set(0, 3, 1);
        C.due("page 0 folds out", x.best(0, 4), 1);
        C.due("stop 0", x.stop(0, 0), 2);
        x.set(0, 3, 2);
        C.due("to fold page 1 is no help", x.best(0, 0), 2);
        x.set(0, 3, 5);
        C.due("no turns", x.best(0, 4), 0);
        C.due("folds: in place of those that are told", x.folds(0), 5);
    }

    private static void lateFolds() {
        PageTurns x = onePageABar(40);
        C.due("pages", x.best(0, 2), 40);
        C.due("turns", x.best(0, 4), 20);
        C.due("stops", x.best(0, 0), 20);
        x.set(0, 3, 1023);
        C.due("pages 10, 12, .. can't fold", x.best(0, 0), 15);
        C.due("the first of them", x.stop(0, 0), 10);
        C.due("the last of them", x.stop(0, 14), 38);
        C.due("no more", x.stop(0, 15), NONE);
        C.due("folds", x.folds(0), NONE);
        PageTurns y = onePageABar(10);
        C.due("five folds", y.folds(0), 1 + 4 + 16 + 64 + 256);
        PageTurns z = onePageABar(11);
        C.due("page 10 is the last", z.folds(0), 341);
        PageTurns w = onePageABar(12);
        C.due("page 10 can't fold", w.folds(0), NONE);
    }

    private static void neighbour() {
        PageTurns x = onePageABar(4);
        Check.read(x, 1, "busy 1 busy 1 free 1 beats 2");
        C.due("stops alone", x.best(0, 0), 2);
        x.set(0, 2, 1);
        C.due("bar 2 of the neighbour is free", x.best(0, 0), 1);
        C.due("the other", x.stop(0, 0), 0);
        C.due("behind page 2", x.laid(0, 2, 5), 1);
        x.set(1, 0, 81);
        C.due("200 becomes 148", x.best(0, 0), 2);
        x.set(1, 0, 80);
        C.due("200 becomes 150", x.best(0, 0), 1);
        x.set(1, 1, 8);
        x.rule(2, 151);
        C.due("the neighbour knows nothing by heart for another", x.best(0, 0), 2);
        x.rule(2, 150);
        x.cut(1, 2, 1);
        C.due("the neighbour has no such bar", x.best(0, 0), 2);
        x.set(0, 2, 3);
        C.due("nor any", x.best(0, 0), 2);
    }

    private static void hearts() {
        PageTurns x = onePageABar(4);
        C.due("one beat each: 150 is two", x.hearts(0), NONE);
        x.rule(2, 100);
        C.due("behind page 2 is one bar", x.hearts(0), 1);
        C.due("hearts are as they were", x.set(0, 1, 5), 0);
        C.due("what is told is no matter", x.hearts(0), 1);
        C.due("hearts are as they were", x.set(0, 1, 0), 5);
        x.rule(2, 0);
        C.due("no need", x.hearts(0), 0);
        PageTurns y = onePageABar(3);
        y.rule(2, 200);
        C.due("two bars behind page 0", y.hearts(0), 2);
        y.rule(2, 201);
        C.due("not even 8", y.hearts(0), NONE);
        PageTurns z = onePageABar(10);
        z.set(0, 3, 4 + 16 + 64 + 256);
        z.rule(2, 800);
        C.due("8", z.hearts(0), 8);
        z.rule(2, 801);
        C.due("no ninth", z.hearts(0), NONE);
        z.set(0, 3, 1 + 4 + 16 + 64 + 256);
        C.due("no turns", z.hearts(0), 0);
    }

    private static void folds() {
        PageTurns x = onePageABar(4);
        C.due("0 and 2", x.folds(0), 5);
        x.change(0, 0, 1, 2);
        x.rule(2, 100);
        C.due("2 alone", x.folds(0), 4);
        C.due("folds are as they were", x.set(0, 3, 1023), 0);
        x.change(0, 2, 1, 2);
        C.due("none", x.folds(0), 0);
        C.due("folds are as they were", x.set(0, 3, 0), 1023);
        PageTurns y = Check.with("busy 60 free 60 beats 1 busy 60 busy 60");
        y.rule(1, 2);
        // Two pages with a turn behind the first: the cut falls as it may.
        C.due("no stop without folds", y.folds(0), 1);
        y.rule(2, 100);
        C.due("the turn can be behind bar 1", y.folds(0), 0);
        // Turns are safe behind bars 0, 3, 4. With 0 and 2 folded five pages
        // of two bars do; with 4 folded alone the turns are behind 0 and 4.
        PageTurns z = Check.with("free 60 3(busy 60)free 60 5(busy 60)");
        z.rule(1, 2);
        C.due("the fewest go ahead of the least set", z.folds(0), 16);
        z.set(0, 3, 5);
        C.due("the least set would do, too", z.best(0, 0), 0);
        // Turns are safe behind bars 1 and 2: behind page 2, or page 0.
        PageTurns w = Check.with("2(busy 60)free 60 4(busy 60)");
        w.rule(1, 2);
        w.rule(2, 400);
        C.due("of several the least set", w.folds(0), 1);
        w.set(0, 3, 4);
        C.due("the other would do, too", w.best(0, 0), 0);
    }

    private static void needs() {
        PageTurns x = onePageABar(3);
        C.due("nothing is free", x.needs(0), 1);
        x.change(0, 0, 1, 2);
        C.due("100 are", x.needs(0), 101);
        C.due("need is as it was", x.rule(2, 999), 150);
        C.due("what is told is no matter", x.needs(0), 101);
        C.due("need is as it was", x.rule(2, 150), 999);
        x.set(0, 1, 2);
        C.due("by heart", x.needs(0), 301);
        x.set(0, 3, 1);
        C.due("no turn", x.needs(0), NONE);
        PageTurns y = Check.with("free 60 beats 5 free 60 beats 5 busy 60");
        y.rule(1, 1);
        y.set(0, 0, 60);
        C.due("1000 are free", y.needs(0), NONE);
        y.set(0, 0, 61);
        C.due("983", y.needs(0), 984);
        // 999 free: 999 is met, so not even 999 gives a stop.
        PageTurns z = Check.with("free 60 beats 12 busy 60 busy 60");
        z.rule(1, 1);
        z.set(0, 0, 72);
        C.due("1000", z.needs(0), NONE);
        PageTurns w = Check.with("free 60 beats 12 half 60 beats 1 busy 60");
        w.rule(1, 1);
        w.set(0, 0, 73);
        C.due("986", w.needs(0), 987);
        // Needs on both sides of powers of two: beats at a speed, and what is free.
        int[][] free = {{7, 82, 512}, {11, 129, 511}, {9, 211, 255}, {3, 70, 257}, {1, 46, 130}, {2, 94, 127}};
        for (int[] f : free) {
            PageTurns v = Check.with("free 60 beats " + f[0] + " busy 60 busy 60");
            v.rule(1, 1);
            v.set(0, 0, f[1]);
            C.due("free", v.free(0, 0, 0), f[2]);
            C.due("needs(0) with " + f[2] + " free", v.needs(0), f[2] + 1);
        }
    }

    private static void together() {
        PageTurns x = onePageABar(5);
        Check.read(x, 1, "4(busy 60)");
        C.due("turns behind 0 and 2 of both", x.together(0, 1), 2);
        C.due("the other way", x.together(1, 0), 2);
        x.set(1, 3, 1);
        C.due("one folds out", x.together(0, 1), 1);
        C.due("itself", x.together(1, 1), BEYOND);
        C.due("part 4", x.together(0, 4), BEYOND);
        C.due("part -1", x.together(-1, 0), BEYOND);
        C.due("one has no bars", x.together(0, 2), NONE);
        C.due("nor the other", x.together(2, 0), NONE);
        C.due("neither", x.together(2, 3), NONE);
    }

    private static void all() {
        PageTurns x = onePageABar(5);
        Check.read(x, 1, "4(busy 60)");
        Check.read(x, 2, "2(busy 60)");
        x.rule(4, 10);
        x.change(0, 0, 1, 2);
        x.rule(2, 100);
        C.due("stops: 1 and 2 and 1", x.all(0), 4);
        C.due("costs", x.all(1), 110);
        C.due("turns at 0 and 2", x.all(2), 2);
        C.due("at 0 all three", x.all(3), 3);
        x.set(0, 3, 5);
        C.due("at 0 two, at 2 one", x.all(2), 1);
        C.due("two", x.all(3), 2);
        x.rule(0, 20);
        C.due("no laying: no stops", x.all(0), 0);
        C.due("no costs", x.all(1), 0);
        C.due("no turns", x.all(2), 0);
        C.due("none", x.all(3), 0);
        C.due("all -1", x.all(-1), BEYOND);
        C.due("all 4", x.all(4), BEYOND);
    }

    /** Each change tells on a laying that was asked before. */
    private static void oldLayingsAreForgotten() {
        PageTurns x = onePageABar(4);
        C.due("stops", x.best(0, 0), 2);
        x.rule(2, 0);
        C.due("need", x.best(0, 0), 0);
        x.rule(2, 150);
        C.due("need", x.best(0, 0), 2);
        x.rule(4, 0);
        C.due("paper", x.best(0, 1), 0);
        x.rule(1, 2);
        C.due("lines", x.best(0, 2), 2);
        x.rule(0, 200);
        C.due("width", x.best(0, 2), 1);
        x.rule(0, 60);
        x.rule(1, 1);
        C.due("read", x.best(0, 2) + Check.read(x, 0, "busy 60"), 9);
        C.due("pages", x.best(0, 2), 5);
        C.due("cut", x.cut(0, 0, 3), 2);
        C.due("pages", x.best(0, 2), 2);
        C.due("stops", x.best(0, 0), 1);
        x.change(0, 0, 1, 2);
        x.change(0, 1, 1, 2);
        C.due("hand", x.best(0, 0), 0);
        x.set(0, 0, 240);
        C.due("speed: 5 beats", x.best(0, 0), 1);
        x.set(0, 0, 60);
        x.image();
        x.cut(0, 1, 1);
        C.due("cut", x.best(0, 2), 1);
        x.undo();
        C.due("undo", x.best(0, 2), 2);
        x.sheet(0, 8, 2);
        x.write(0, 0, 10);
        x.write(0, 1, 20);
        C.due("rooms", x.rooms(0, 0), 2);
        C.due("pages", x.best(0, 2), 1);
        x.rule(0, 20);
        C.due("width", x.best(0, 2), 2);
        x.change(0, 0, 3, 1);
        C.due("marks", x.best(0, 2), 1);
        C.due("size", x.laid(0, 0, 2), 2);
        x.rule(3, 9);
        x.change(0, 1, 3, 2);
        C.due("kept", x.best(0, 1), 80 + 9);
    }

    private static void wrongArguments() {
        PageTurns x = onePageABar(2);
        int asked = 0;
        for (int p : new int[] {-1, 4, Integer.MIN_VALUE, Integer.MAX_VALUE}) {
            C.due("best", x.best(p, 0), BEYOND);
            C.due("laid", x.laid(p, 0, 0), BEYOND);
            C.due("ends", x.ends(p, 0), BEYOND);
            C.due("stop", x.stop(p, 0), BEYOND);
            C.due("hearts", x.hearts(p), BEYOND);
            C.due("folds", x.folds(p), BEYOND);
            C.due("needs", x.needs(p), BEYOND);
            asked += 7;
        }
        C.due("best what -1", x.best(0, -1), BEYOND);
        C.due("best what 5", x.best(0, 5), BEYOND);
        C.due("status", x.status(0), asked + 2);
    }
}
