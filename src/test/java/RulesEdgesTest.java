import java.io.IOException;

/** The document's "Terms" of RULES, LINES, PAGES and THE LAYING: each sentence with its edges. */
public final class RulesEdgesTest {
    private static final Edges E = new Edges("RulesEdgesTest");
    private static final int MIN = Integer.MIN_VALUE;
    private static final int MAX = Integer.MAX_VALUE;
    private static final int BEYOND = Check.BEYOND;
    private static final int KIND = Check.KIND;
    private static final int NONE = Check.NONE;
    private static final int STATE = Check.STATE;

    public static void main(String[] args) throws IOException {
        widthAndLines();
        needKeptPaper();
        sizes();
        line();
        costOfLine();
        page();
        laying();
        turn();
        stop();
        neighbour();
        fewestStops();
        leastCostFewestPages();
        first();
        E.finish("T3");
    }

    /** The last values that are allowed and the first that aren't, at both ends. */
    private static void ruleIs(int what, int first, int least, int most) {
        PageTurns x = new PageTurns();
        E.due("at first", x.rule(what, least), first);
        E.due("the least", x.rule(what, most), least);
        E.due("the greatest", x.rule(what, first), most);
        E.refused(States.NEW, "rule(" + what + ", ?)", BEYOND, least - 1, most + 1, MIN, MAX);
        E.refused(States.RICH, "rule(" + what + ", ?)", BEYOND, least - 1, most + 1, MIN, MAX);
    }

    private static void widthAndLines() {
        E.says("T3", "RULES: WIDTH (20 to 200; 60 at first),");
        ruleIs(0, 60, 20, 200);
        PageTurns x = Check.with("3(busy 60)busy 20 busy 1 busy 20 busy 1");
        E.due("60 at first", x.line(0, 0, 0, 0), 0);
        E.due("42", x.line(0, 3, 6, 0), 0);
        E.due("80", x.line(0, 2, 3, 0), KIND);
        x.rule(0, 200);
        E.due("200", x.line(0, 0, 3, 0), 0);
        E.due("201", x.line(0, 0, 4, 0), KIND);
        x.rule(0, 20);
        E.due("20", x.line(0, 5, 5, 0), 0);
        E.due("21", x.line(0, 5, 6, 0), KIND);

        E.says("T3", "LINES a PAGE (1 to 6; 3),");
        ruleIs(1, 3, 1, 6);
        PageTurns y = Check.with("8(busy 60)");
        E.due("3 at first", y.page(0, 0, 2, 0), 0);
        E.due("4", y.page(0, 0, 3, 0), NONE);
        y.rule(1, 6);
        E.due("6", y.page(0, 0, 5, 0), 0);
        E.due("7", y.page(0, 0, 6, 0), NONE);
        y.rule(1, 1);
        E.due("1", y.page(0, 0, 0, 0), 0);
        E.due("2", y.page(0, 0, 1, 0), NONE);
    }

    /** Each bar is a page of its own: at no size do two of them fit into a line. */
    private static PageTurns pageABar(String text) {
        PageTurns x = Check.with(text);
        x.rule(1, 1);
        return x;
    }

    private static void needKeptPaper() {
        E.says("T3", "NEED (0 to 999; 150),");
        ruleIs(2, 150, 0, 999);
        PageTurns x = pageABar("free 60 beats 3 busy 60");
        x.set(0, 0, 120);
        E.due("150 free", x.best(0, 0), 0);
        x.set(0, 0, 121);
        E.due("148 free", x.best(0, 0), 1);
        x.change(0, 0, 1, 0);
        x.rule(2, 0);
        E.due("0 free, none is needed", x.best(0, 0), 0);
        x.rule(2, 1);
        E.due("0 free, 1 is needed", x.best(0, 0), 1);
        PageTurns y = pageABar("2(free 60 beats 12)");
        y.rule(2, 999);
        y.set(0, 0, 144);
        E.due("1000 free, 999 are needed", y.best(0, 0), 0);
        y.set(0, 0, 145);
        E.due("993 free, 999 are needed", y.best(0, 0), 1);

        E.says("T3", "KEPT (0 to 99; 0),");
        ruleIs(3, 0, 0, 99);
        PageTurns z = Check.with("busy 1 busy 1 letter");
        E.due("0 at first", z.line(0, 0, 1, 0), 0);
        z.rule(3, 99);
        E.due("99", z.line(0, 0, 1, 0), 99);

        E.says("T3", "PAPER (0 to 999; 50).");
        ruleIs(4, 50, 0, 999);
        PageTurns w = pageABar("3(busy 60)");
        E.due("50 at first", w.best(0, 1), 150);
        w.rule(4, 0);
        E.due("0", w.best(0, 1), 0);
        w.rule(4, 999);
        E.due("999", w.best(0, 1), 2997);
    }

    private static void sizes() {
        E.says("T3", "SIZES 0 to 2:");
        PageTurns x = Check.with("busy 10");
        int[] rooms = {10, 8, 6};
        int[] costs = {0, 20, 80};
        for (int s = 0; s < 3; s++) {
            E.due(x, "room(0, 0, " + s + ")", rooms[s]);
            E.due(x, "line(0, 0, 0, " + s + ")", costs[s]);
            E.due(x, "page(0, 0, 0, " + s + ")", costs[s]);
        }
        E.refused(States.RICH, "room(0, 0, ?)", BEYOND, -1, 3, MIN, MAX);
        E.refused(States.RICH, "line(0, 2, 2, ?)", BEYOND, -1, 3, MIN, MAX);
        E.refused(States.RICH, "page(0, 2, 2, ?)", BEYOND, -1, 3, MIN, MAX);

        E.says("T3", "ROOM of a BAR at SIZE s: ROOM times 10 less 2 s, by 10, up.");
        PageTurns y = Check.with("busy 1 busy 2 busy 3 busy 4 busy 5 busy 6 busy 58 busy 59 busy 60");
        int[][] want = {{1, 1, 1}, {2, 2, 2}, {3, 3, 2}, {4, 4, 3}, {5, 4, 3}, {6, 5, 4}, {58, 47, 35}, {59, 48, 36},
            {60, 48, 36}};
        for (int b = 0; b < want.length; b++) {
            for (int s = 0; s < 3; s++) {
                E.due(y, "room(0, " + b + ", " + s + ")", want[b][s]);
            }
        }
    }

    private static void line() {
        E.says("T3", "A LINE: BARS of a PART one behind the other, at a SIZE,");
        PageTurns x = Check.with("8(5(busy 5))");
        x.rule(0, 200);
        E.due("all 40", x.line(0, 0, 39, 0), 0);
        E.due("all 40 at size 1", x.line(0, 0, 39, 1), 20);
        E.due("all 40 at size 2", x.line(0, 0, 39, 2), 80);
        E.due("the first alone: 195 times 195 by 10", x.line(0, 0, 0, 0), 3802);
        E.due("the last alone", x.line(0, 39, 39, 0), 0);
        E.due("not backwards", x.line(0, 1, 0, 0), BEYOND);

        E.says("T3", "whose ROOMS together are WIDTH at most,");
        PageTurns y = Check.with("busy 30 busy 30 busy 1 busy 9");
        E.due("60", y.line(0, 0, 1, 0), 0);
        E.due("61", y.line(0, 0, 2, 0), KIND);
        E.due("49 at size 1", y.line(0, 0, 2, 1), 12 + 20);
        // Each room goes up for itself: 20 bars of 1 are 20 at size 2, not 12.
        PageTurns z = Check.with("4(5(busy 1))busy 1");
        z.rule(0, 20);
        E.due("20 at size 2", z.line(0, 0, 19, 2), 80);
        E.due("21 at size 2", z.line(0, 0, 20, 2), KIND);

        E.says("T3", "the last of which isn't KEEP, but for the last BAR of the PART.");
        PageTurns w = Check.with("busy 30 keep busy 30 busy 30 keep");
        E.due("keep", w.line(0, 0, 0, 0), STATE);
        E.due("keep, but not the last of the line", w.line(0, 0, 1, 0), 0);
        E.due("the last of the part", w.line(0, 2, 2, 0), 0);
        E.due("a page ends there", w.page(0, 0, 2, 0), 0);
        E.due("no page ends there", w.page(0, 0, 0, 0), NONE);
        Check.read(w, 0, "busy 1");
        E.due("no more the last of the part", w.line(0, 2, 2, 0), STATE);
        w.cut(0, 3, 1);
        E.due("the last of the part again", w.line(0, 2, 2, 0), 0);
        w.cut(0, 1, 2);
        E.due("one bar alone", w.line(0, 0, 0, 0), 0);
    }

    private static void costOfLine() {
        E.says("T3", "COST of a LINE: what WIDTH is more than these ROOMS, times itself, by 10");
        PageTurns x = Check.with("busy 60 busy 57 busy 56 busy 50 busy 1 busy 60");
        E.due("0 more", x.line(0, 0, 0, 0), 0);
        E.due("3 more", x.line(0, 1, 1, 0), 0);
        E.due("4 more", x.line(0, 2, 2, 0), 1);
        E.due("10 more", x.line(0, 3, 3, 0), 10);
        E.due("9 more", x.line(0, 3, 4, 0), 8);
        x.rule(0, 200);
        E.due("199 more", x.line(0, 4, 4, 0), 3960);

        E.says("T3", "(that is 0 if it ends the PART),");
        PageTurns y = Check.with("busy 10 busy 10");
        E.due("it doesn't", y.line(0, 0, 0, 0), 250);
        E.due("it does", y.line(0, 1, 1, 0), 0);
        E.due("from the first on", y.line(0, 0, 1, 0), 0);
        Check.read(y, 0, "busy 10");
        E.due("no more", y.line(0, 1, 1, 0), 250);
        E.due("the new one", y.line(0, 2, 2, 0), 0);

        E.says("T3", "and 20 s s,");
        E.due("size 0", y.line(0, 2, 2, 0), 0);
        E.due("size 1", y.line(0, 2, 2, 1), 20);
        E.due("size 2", y.line(0, 2, 2, 2), 80);
        E.due("size 2, and 54 more", y.line(0, 0, 0, 2), 291 + 80);

        E.says("T3", "less 5 if its last BAR is WISH,");
        PageTurns z = Check.with("busy 60 wish busy 30 wish busy 30 busy 60 wish");
        E.due("below 0", z.line(0, 0, 0, 0), -5);
        E.due("not the last", z.line(0, 1, 2, 0), 0);
        E.due("it ends the part", z.line(0, 3, 3, 0), -5);
        E.due("all lines", z.page(0, 0, 2, 0), -5);
        z.rule(4, 0);
        E.due("the laying, below 0", z.best(0, 1), -10);

        E.says("T3", "and KEPT for each LETTER BAR in it but the first BAR of the LINE.");
        PageTurns w = Check.with("busy 20 letter busy 20 letter busy 20 letter busy 60");
        w.rule(3, 7);
        E.due("the first alone", w.line(0, 0, 0, 0), 160);
        E.due("one more", w.line(0, 0, 1, 0), 40 + 7);
        E.due("two more", w.line(0, 0, 2, 0), 14);
        E.due("the line begins with the second", w.line(0, 1, 2, 0), 40 + 7);
        w.change(0, 0, 3, 0);
        E.due("the first isn't one", w.line(0, 0, 2, 0), 14);
    }

    private static void page() {
        E.says("T3", "A PAGE: 1 to LINES LINES one behind the other,");
        PageTurns x = Check.with("7(busy 60)busy 30 busy 30");
        for (int lines = 1; lines <= 6; lines++) {
            x.rule(1, lines);
            E.due("1 line of " + lines, x.page(0, 1, 1, 0), 0);
            E.due(lines + " lines of " + lines, x.page(0, 0, lines - 1, 0), 0);
            E.due(lines + 1 + " lines of " + lines, x.page(0, 0, lines, 0), NONE);
        }
        x.rule(1, 6);
        E.due("fewer lines are cheaper", x.page(0, 7, 8, 0), 0);

        E.says("T3", "all at one SIZE.");
        // The second bar fits at size 2 alone, the first is the cheapest at size 1.
        PageTurns y = Check.with("busy 30 busy 34");
        y.rule(0, 24);
        y.rule(4, 64);
        y.rule(2, 0);
        E.due("page at size 1", y.page(0, 0, 1, 1), NONE);
        E.due("page at size 2", y.page(0, 0, 1, 2), 3 + 80 + 80);
        E.due("one page", y.best(0, 1), 3 + 80 + 80 + 64);
        E.due("of size 2", y.laid(0, 0, 2), 2);
        y.rule(4, 62);
        E.due("two pages", y.best(0, 1), 20 + 80 + 2 * 62);
        E.due("of size 1", y.laid(0, 0, 2), 1);
        E.due("and 2", y.laid(0, 1, 2), 2);
    }

    private static void laying() {
        E.says("T3", "A LAYING of a PART: all its BARS on PAGES 0, 1, ..;");
        PageTurns x = pageABar("8(5(busy 60))");
        E.due("40 pages", x.best(0, 2), 40);
        for (int i = 0; i < 40; i++) {
            E.due("first of page " + i, x.laid(0, i, 0), i);
            E.due("last of page " + i, x.laid(0, i, 1), i);
        }
        E.due("page 40", x.laid(0, 40, 0), NONE);
        PageTurns y = Check.with("busy 60");
        E.due("one bar, one page", y.best(0, 2), 1);
        E.due("one line", y.best(0, 3), 1);
        E.due("no page -1", y.laid(0, -1, 0), BEYOND);
        E.due("no bars, no laying", y.best(1, 2), NONE);
        y.rule(0, 36);
        E.due("it just fits", y.best(0, 2), 1);
        y.rule(0, 35);
        E.due("it doesn't", y.best(0, 2), NONE);

        E.says("T3", "its COST: those of all LINES, and PAPER for each PAGE.");
        PageTurns z = Check.with("busy 50 busy 40 busy 50 busy 40 busy 50");
        z.rule(1, 2);
        z.rule(2, 0);
        z.rule(4, 7);
        // Lines of one bar each at size 0: 10, 40, 10, 40 and 0; pages of 1, 2 and 2.
        E.due("lines", z.best(0, 3), 5);
        E.due("cost", z.best(0, 1), 10 + 40 + 10 + 40 + 3 * 7);
        E.due("page 0", z.laid(0, 0, 4), 10);
        E.due("page 1", z.laid(0, 1, 4), 50);
        E.due("page 2", z.laid(0, 2, 4), 40);
    }

    private static void turn() {
        E.says("T3", "Behind each PAGE of an even number");
        PageTurns x = pageABar("6(busy 60)");
        int[] behind = {2, 0, 2, 0, 2, 0};
        for (int i = 0; i < 6; i++) {
            E.due("behind page " + i, x.laid(0, i, 5), behind[i]);
        }
        E.due("turns", x.best(0, 4), 3);
        PageTurns full = pageABar("8(5(busy 60))");
        E.due("of 40 pages", full.best(0, 4), 20);
        E.due("behind page 38", full.laid(0, 38, 5), 2);
        E.due("behind page 39", full.laid(0, 39, 5), 0);

        E.says("T3", "that isn't the last one,");
        PageTurns y = pageABar("busy 60");
        for (int pages = 1; pages <= 5; pages++) {
            E.due("behind the last of " + pages, y.laid(0, pages - 1, 5), 0);
            E.due("turns of " + pages, y.best(0, 4), pages / 2);
            Check.read(y, 0, "busy 60");
        }

        E.says("T3", "and isn't in FOLDS, is a TURN;");
        PageTurns z = pageABar("6(2(busy 60))busy 60");
        for (int page = 0; page <= 9; page++) {
            z.set(0, 3, 1 << page);
            E.due("folds: page " + page, z.best(0, 4), page % 2 == 0 ? 5 : 6);
            E.due("behind page " + page, z.laid(0, page, 5), 0);
            E.due("behind page 10", z.laid(0, 10, 5), 2);
        }
        z.set(0, 3, 1023);
        E.due("all that can be folded are", z.best(0, 4), 1);
        E.due("the one that can't be", z.stop(0, 0), 10);
        z.set(0, 3, 0);
        E.due("none is folded", z.best(0, 4), 6);
    }

    private static void stop() {
        E.says("T3", "it is a STOP, if neither FREE BY HEART behind its last BAR,");
        PageTurns x = pageABar("busy 60 busy 60 beats 1 busy 60 beats 1");
        x.rule(2, 200);
        E.due("no hearts", x.laid(0, 0, 5), 2);
        x.set(0, 1, 1);
        E.due("one heart", x.laid(0, 0, 5), 2);
        x.set(0, 1, 2);
        E.due("two hearts", x.laid(0, 0, 5), 1);
        E.due("no stop", x.best(0, 0), 0);
        E.due("still a turn", x.best(0, 4), 1);

        E.says("T3", "is NEED or more.");
        x.rule(2, 201);
        E.due("200 free by heart, 201 are needed", x.laid(0, 0, 5), 2);
        x.rule(2, 200);
        E.due("200 free by heart, 200 are needed", x.laid(0, 0, 5), 1);
        x.set(0, 1, 0);
        x.set(0, 2, 1);
        Check.read(x, 1, "free 1 beats 2 busy 1");
        E.due("200 free of the neighbour, 200 are needed", x.laid(0, 0, 5), 1);
        x.rule(2, 201);
        E.due("200 free of the neighbour, 201 are needed", x.laid(0, 0, 5), 2);
        x.rule(2, 0);
        x.set(0, 2, -1);
        E.due("nothing free, nothing needed", x.laid(0, 0, 5), 1);
    }

    private static void neighbour() {
        E.says("T3", "nor FREE behind the BAR of that number of the NEIGHBOUR (if it has one)");
        PageTurns x = pageABar("4(busy 60)");
        Check.read(x, 1, "busy 1 busy 1 free 1 beats 2");
        E.due("no neighbour", x.best(0, 0), 2);
        x.set(0, 2, 2);
        E.due("one without bars", x.best(0, 0), 2);
        x.set(0, 2, 1);
        E.due("one whose bar 2 is the last", x.best(0, 0), 1);
        E.due("behind bar 2", x.laid(0, 2, 5), 1);
        x.cut(1, 0, 1);
        E.due("one that has no bar 2", x.laid(0, 2, 5), 2);
        E.due("though behind its last bar a hand is free", x.free(1, 1, 0), 200);
        Check.read(x, 1, "busy 1");
        E.due("one with a bar 2 that isn't free", x.free(1, 2, 0), 0);
        E.due("behind bar 2", x.laid(0, 2, 5), 2);
        x.set(1, 1, 8);
        Check.read(x, 1, "busy 1 beats 12");
        E.due("1200 by heart", x.free(1, 2, 1), 1200);
        E.due("a neighbour's hearts are no help", x.laid(0, 2, 5), 2);
        x.change(1, 2, 1, 2);
        x.set(1, 0, 240);
        E.due("it goes by the neighbour's speed", x.free(1, 2, 0), 150);
        E.due("behind bar 2", x.laid(0, 2, 5), 1);
        x.set(0, 0, 240);
        E.due("not by its own", x.laid(0, 2, 5), 1);
        x.set(1, 2, 0);
        E.due("the neighbour's neighbour is no matter", x.laid(0, 2, 5), 1);
    }

    private static void fewestStops() {
        E.says("T3", "THE LAYING: that with the fewest STOPS;");
        PageTurns x = pageABar("busy 20 free 20 busy 20 busy 20 busy 20 busy 20");
        x.rule(4, 0);
        E.due("none", x.best(0, 0), 0);
        E.due("though it is dearer", x.best(0, 1), 40);
        E.due("page 0", x.laid(0, 0, 1), 1);
        x.rule(2, 400);
        E.due("just none", x.best(0, 0), 0);
        x.rule(2, 401);
        E.due("one", x.best(0, 0), 1);
        E.due("then the cheapest", x.best(0, 1), 0);
        E.due("page 0", x.laid(0, 0, 1), 2);
        PageTurns y = Check.with("8(5(free 60 beats 1))");
        y.rule(1, 6);
        y.rule(2, 999);
        E.due("a hand is always free", y.best(0, 0), 0);
        E.due("fewest pages", y.best(0, 2), 7);
        // Free behind bar 0 alone: page 0 has one bar, however dear a page more is.
        PageTurns z = Check.with("free 60 4(busy 60)");
        z.rule(4, 999);
        z.rule(2, 400);
        E.due("no stop", z.best(0, 0), 0);
        E.due("three pages", z.best(0, 2), 3);
        E.due("page 0", z.laid(0, 0, 1), 0);
        z.rule(2, 401);
        E.due("one stop", z.best(0, 0), 1);
        E.due("two pages", z.best(0, 2), 2);
    }

    private static void leastCostFewestPages() {
        // Two pages: 2 and PAPER twice; one of size 2: 80 and PAPER.
        PageTurns x = pageABar("busy 40 busy 20");
        x.rule(0, 45);
        x.rule(2, 0);
        E.says("T3", "of several with the least COST;");
        x.rule(4, 77);
        E.due("156, not 157", x.best(0, 1), 156);
        E.due("two pages", x.best(0, 2), 2);
        x.rule(4, 79);
        E.due("159, not 160", x.best(0, 1), 159);
        E.due("one page", x.best(0, 2), 1);

        E.says("T3", "of several with the fewest PAGES;");
        x.rule(4, 78);
        E.due("158 both", x.best(0, 1), 158);
        E.due("one page", x.best(0, 2), 1);
        PageTurns y = Check.with("3(busy 60)");
        y.rule(4, 0);
        y.rule(2, 0);
        E.due("paper for nothing", y.best(0, 2), 1);
    }

    private static void first() {
        E.says("T3", "of several the first: PAGE by PAGE that with fewer BARS,");
        PageTurns x = Check.with("3(busy 20)");
        x.rule(0, 20);
        x.rule(1, 2);
        x.rule(2, 0);
        E.due("1 and 2", x.laid(0, 0, 1), 0);
        Check.read(x, 0, "2(busy 20)");
        E.due("1", x.laid(0, 0, 1), 0);
        E.due("2", x.laid(0, 1, 1), 2);
        E.due("2", x.laid(0, 2, 1), 4);

        E.says("T3", "then at the lesser SIZE,");
        PageTurns y = Check.with("busy 44 wish busy 20");
        E.due("size 0: two lines", y.page(0, 0, 1, 0), 20);
        E.due("size 1: one line", y.page(0, 0, 1, 1), 20);
        E.due("size 0", y.laid(0, 0, 2), 0);
        E.due("two lines", y.laid(0, 0, 3), 2);
        PageTurns z = Check.with("busy 25 busy 41");
        z.rule(0, 40);
        E.due("size 0: none", z.page(0, 0, 1, 0), NONE);
        E.due("size 1: two lines", z.page(0, 0, 1, 1), 80);
        E.due("size 2: one line", z.page(0, 0, 1, 2), 80);
        E.due("size 1", z.laid(0, 0, 2), 1);
        E.due("two lines", z.laid(0, 0, 3), 2);

        E.says("T3", "then LINE by LINE that with fewer BARS.");
        // 1 and 2: 10, and 5 less; 2 and 1: KEPT, and 5 less.
        PageTurns w = Check.with("busy 10 busy 10 letter busy 10 wish");
        w.rule(0, 20);
        w.rule(3, 10);
        E.due("cost", w.page(0, 0, 2, 0), 5);
        E.due("the first line", w.ends(0, 0), 0);
        E.due("the second", w.ends(0, 1), 2);
        PageTurns v = Check.with("busy 20 busy 10 busy 10 letter busy 10 wish");
        v.rule(0, 20);
        v.rule(3, 10);
        E.due("cost", v.page(0, 0, 3, 0), 5);
        E.due("the first line", v.ends(0, 0), 0);
        E.due("the second", v.ends(0, 1), 1);
        E.due("the third", v.ends(0, 2), 3);
        v.rule(3, 9);
        E.due("2 and 1 is cheaper", v.ends(0, 1), 2);
        // 1, 1 and 1 cost as much as 2 and 1, but are three lines.
        PageTurns u = Check.with("busy 10 busy 10 letter busy 15");
        u.rule(0, 20);
        u.rule(3, 20);
        E.due("three lines", u.ends(0, 0), 0);
        E.due("cost", u.laid(0, 0, 4), 20);
        u.rule(1, 2);
        E.due("no more than two lines", u.ends(0, 0), 1);
        E.due("cost", u.laid(0, 0, 4), 20);
    }
}
