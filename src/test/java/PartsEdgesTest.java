import java.io.IOException;
import java.util.function.Supplier;

/** Promises 1 to 11: each sentence with its edges. */
public final class PartsEdgesTest {
    private static final Edges E = new Edges("PartsEdgesTest");
    private static final int MIN = Integer.MIN_VALUE;
    private static final int MAX = Integer.MAX_VALUE;
    private static final int BEYOND = Check.BEYOND;
    private static final int FULL = Check.FULL;

    /** As States.RICH, but part 0 has no breaks. */
    private static final Supplier<PageTurns> NO_BREAKS = () -> {
        PageTurns x = States.RICH.get();
        x.clear(0);
        return x;
    };

    public static void main(String[] args) throws IOException {
        newObject();
        set();
        rule();
        feed();
        wipe();
        read();
        readRefused();
        bar();
        change();
        cut();
        cutRefused();
        free();
        room();
        E.finish("1", "2", "3", "4", "5", "6", "7", "8", "9", "10", "11");
    }

    /** A state with another text on the tape. */
    private static Supplier<PageTurns> withTape(Supplier<PageTurns> state, String text) {
        return () -> {
            PageTurns x = state.get();
            x.wipe();
            Check.feed(x, text);
            return x;
        };
    }

    private static void newObject() {
        E.says("1", "All as at first;");
        PageTurns x = new PageTurns();
        int[] traits = {60, 0, -1, 0};
        for (int p = 0; p < 4; p++) {
            for (int what = 0; what < 4; what++) {
                E.due("trait " + what + " of part " + p, x.set(p, what, traits[what]), traits[what]);
            }
            E.due("sheet " + p, x.write(p, 0, 0), Check.MISSING);
        }
        int[] rules = {60, 3, 150, 0, 50};
        for (int what = 0; what < 5; what++) {
            E.due("rule " + what, x.rule(what, rules[what]), rules[what]);
        }
        for (int s = 0; s < 10; s++) {
            E.due("spot " + s, x.as(s, 0), Check.MISSING);
        }
        PageTurns y = new PageTurns();
        for (int which = -1; which < 7; which++) {
            E.due(y, "status(" + which + ")", 0);
        }
        // What one object does is nothing to another.
        PageTurns z = States.FULL.get();
        E.due("the full one", z.count(0), 160);
        E.due("a new one behind it", new PageTurns().count(0), 0);

        E.says("1", "no BARS, BREAKS;");
        PageTurns w = new PageTurns();
        E.due(w, "count(0)", 0);
        E.due(w, "count(1)", 0);
        for (int p = 0; p < 4; p++) {
            E.due(w, "bar(" + p + ", 0, 0)", BEYOND);
        }
        E.due(w, "breakOf(0, 0)", BEYOND);

        E.says("1", "THE TAPE is empty,");
        E.due(w, "count(2)", 0);
        E.due(w, "read(0)", -1);
        E.due(w, "wipe()", 0);

        E.says("1", "no image is kept.");
        E.due(new PageTurns(), "undo()", Check.NONE);
        E.due(new PageTurns(), "tear()", 0);
    }

    private static void set() {
        E.says("2", "SPEED (what 0), HEARTS (1), NEIGHBOUR (2), FOLDS (3) of a PART becomes v: what it was.");
        PageTurns x = new PageTurns();
        int[] first = {60, 0, -1, 0};
        int[] least = {30, 0, -1, 0};
        int[] most = {240, 8, 3, 1023};
        for (int what = 0; what < 4; what++) {
            E.due("least", x.set(2, what, least[what]), first[what]);
            E.due("most", x.set(2, what, most[what]), least[what]);
            E.due("again", x.set(2, what, most[what]), most[what]);
        }
        for (int what = 0; what < 4; what++) {
            E.due("each by itself", x.set(2, what, first[what]), most[what]);
        }

        E.says("2", "BEYOND.");
        E.refused(States.RICH, "set(?, 0, 60)", BEYOND, Edges.NO_PART);
        E.refused(States.RICH, "set(?, 2, -1)", BEYOND, Edges.NO_PART);
        E.refused(States.RICH, "set(0, ?, 60)", BEYOND, -1, 4, MIN, MAX);
        E.refused(States.RICH, "set(0, ?, 0)", BEYOND, -1, 4, MIN, MAX);
        for (int what = 0; what < 4; what++) {
            E.refused(States.RICH, "set(1, " + what + ", ?)", BEYOND, least[what] - 1, most[what] + 1, MIN, MAX);
        }
        E.refused(States.RICH, "set(0, 2, 0)", BEYOND);
        E.refused(States.RICH, "set(3, 2, 3)", BEYOND);
    }

    private static void rule() {
        E.says("3", "WIDTH (what 0), LINES a PAGE (1), NEED (2), KEPT (3), PAPER (4) becomes v: what it was.");
        PageTurns x = new PageTurns();
        int[] first = {60, 3, 150, 0, 50};
        int[] least = {20, 1, 0, 0, 0};
        int[] most = {200, 6, 999, 99, 999};
        for (int what = 0; what < 5; what++) {
            E.due("least", x.rule(what, least[what]), first[what]);
            E.due("most", x.rule(what, most[what]), least[what]);
            E.due("again", x.rule(what, most[what]), most[what]);
        }
        for (int what = 0; what < 5; what++) {
            E.due("each by itself", x.rule(what, first[what]), most[what]);
        }

        E.says("3", "BEYOND.");
        E.refused(States.RICH, "rule(?, 60)", BEYOND, -1, 5, MIN, MAX);
        E.refused(States.RICH, "rule(?, 3)", BEYOND, -1, 5, MIN, MAX);
        for (int what = 0; what < 5; what++) {
            E.refused(States.RICH, "rule(" + what + ", ?)", BEYOND, least[what] - 1, most[what] + 1, MIN, MAX);
        }
    }

    private static void feed() {
        E.says("4", "THE TAPE gets the n lowest bytes of a number behind it, the highest of these first (n 1 to 4):");
        PageTurns x = new PageTurns();
        x.feed(0x62757379, 4);
        x.feed(0x7a203132, 3);
        x.feed(0x7a7a2020, 2);
        x.feed(0x7a7a7a37, 1);
        E.due("'busy 12  7' ends too early", x.read(0), -11);
        x.feed(0x62757379, 4);
        x.feed(0x7a203132, 3);
        E.due("'busy 12'", x.read(0), 1);
        E.due("its room", x.bar(0, 0, 0), 12);
        // Bytes of 128 and more, and the sign of the number.
        x.feed(MIN, 4);
        E.due("128 0 0 0", x.read(0), -1);
        x.feed(0x20ffffff, 4);
        E.due("32 255 255 255", x.read(0), -2);
        x.feed(-1, 1);
        E.due("255", x.read(0), -1);
        x.feed(0xffffff20, 1);
        E.due("32", x.read(0), -2);
        x.feed(0xff202020, 3);
        E.due("32 32 32", x.read(0), -4);

        E.says("4", "how many it has.");
        PageTurns y = new PageTurns();
        E.due(y, "feed(0, 1)", 1);
        E.due(y, "feed(MIN, 2)", 3);
        E.due(y, "feed(MAX, 3)", 6);
        E.due(y, "feed(-1, 4)", 10);
        for (int n = 14; n <= 118; n += 4) {
            E.due(y, "feed(0, 4)", n);
        }
        E.due(y, "feed(0, 2)", 120);

        E.says("4", "BEYOND: n.");
        E.refused(States.RICH, "feed(97, ?)", BEYOND, 0, 5, -1, MIN, MAX);
        E.refused(States.NEW, "feed(97, ?)", BEYOND, 0, 5);
        E.refused(States.FULL, "feed(97, ?)", BEYOND, 0, 5);

        E.says("4", "FULL.");
        for (int n = 1; n <= 4; n++) {
            PageTurns z = new PageTurns();
            Check.feed(z, " ".repeat(120 - n));
            E.due("it just has room for " + n, z.feed(32, n), 120);
            E.refused(withTape(States.NEW, " ".repeat(121 - n)), "feed(97, " + n + ")", FULL);
            E.refused(States.FULL, "feed(97, " + n + ")", FULL);
        }
    }

    private static void wipe() {
        E.says("5", "THE TAPE is empty: how many it had.");
        PageTurns x = new PageTurns();
        E.due("empty", x.wipe(), 0);
        x.feed(32, 1);
        E.due("one", x.wipe(), 1);
        E.due("none", x.count(2), 0);
        E.due("empty again", x.wipe(), 0);
        Check.feed(x, "busy 99" + " ".repeat(113));
        E.due("full", x.wipe(), 120);
        E.due("room for all", x.feed(0x20202020, 4), 4);
        x.wipe();
        E.due("what was there is gone", Check.read(x, 0, "busy 9"), 1);
        E.due("its room", x.bar(0, 0, 0), 9);
    }

    private static void read() {
        E.says("6", "THE TAPE is a TEXT, and empty then;");
        PageTurns x = new PageTurns();
        E.due("read", Check.read(x, 3, "busy 7"), 1);
        E.due("empty", x.count(2), 0);
        E.due("nothing is left of it", x.read(3), -1);

        E.says("6", "its BARS come behind those of a PART: how many there are then.");
        E.due("one more", Check.read(x, 3, "half 8 beats 3 wish"), 2);
        E.due("38 more", Check.read(x, 3, "6(6(busy 5))2(free 6)"), 40);
        int[][] want = {{7, 0, 4, 0}, {8, 1, 3, 4}};
        for (int b = 0; b < 2; b++) {
            for (int what = 0; what < 4; what++) {
                E.due(x, "bar(3, " + b + ", " + what + ")", want[b][what]);
            }
        }
        E.due(x, "bar(3, 39, 0)", 6);
        E.due("another part's", Check.read(x, 0, "busy 1"), 1);
        E.due("40 at once", Check.read(x, 1, "8(5(busy 1))"), 40);
    }

    private static void readRefused() {
        E.says("6", "BEYOND.");
        E.refused(States.RICH, "read(?)", BEYOND, Edges.NO_PART);
        E.refused(States.NEW, "read(?)", BEYOND, Edges.NO_PART);
        E.refused(withTape(States.RICH, "loud"), "read(4)", BEYOND);
        E.refused(withTape(States.RICH, "9(9(busy 1))"), "read(-1)", BEYOND);

        E.says("6", "With a FAULT: -1 less the FAULT (nothing changes but that THE TAPE is empty; no finding).");
        E.like(withTape(States.RICH, ""), "read(0)", -1, "wipe()");
        E.like(withTape(States.RICH, "busy 5 busy 6 busy 0"), "read(0)", -20, "wipe()");
        E.like(withTape(States.RICH, "busy 5 2(busy 6)" + " ".repeat(103) + "x"), "read(3)", -120, "wipe()");
        E.like(withTape(States.RICH, "busy 5 2(busy 6" + " ".repeat(105)), "read(2)", -121, "wipe()");
        E.like(withTape(States.FULL, "busy 5 x"), "read(0)", -8, "wipe()");
        E.like(withTape(States.NEW, "9(9(busy 5))x"), "read(0)", -13, "wipe()");

        E.says("6", "FULL: they have no room (THE TAPE is empty then).");
        E.like(withTape(States.NEW, "8(5(busy 1))busy 1"), "read(0)", FULL, "wipe()");
        E.like(withTape(States.NEW, "busy 1 8(5(busy 1))"), "read(0)", FULL, "wipe()");
        E.like(withTape(States.NEW, "9(9(9(9(busy 1))))"), "read(0)", FULL, "wipe()");
        E.like(withTape(States.RICH, "6(5(busy 1))4(busy 1)"), "read(0)", FULL, "wipe()");
        E.like(withTape(States.FULL, "busy 1"), "read(2)", FULL, "wipe()");
        PageTurns x = States.RICH.get();
        x.wipe();
        E.due("7 and 33 have", Check.read(x, 0, "6(5(busy 1))3(busy 1)"), 40);
        PageTurns y = new PageTurns();
        E.due("9 of 5 have not", Check.read(y, 0, "9(5(busy 1))"), FULL);
        E.due("4 of 9 and 5 have not", Check.read(y, 0, "4(9(busy 1))5(busy 1)"), FULL);
        E.due("4 of 9 and 4 have", Check.read(y, 0, "4(9(busy 1))4(busy 1)"), 40);
    }

    private static void bar() {
        E.says("7", "Of a BAR: what 0 ROOM, 1 HAND, 2 BEATS, 3 MARKS.");
        PageTurns x = Check.with("busy 1 beats 1 free 60 beats 12 keep letter wish half 30");
        int[][] want = {{1, 0, 1, 0}, {60, 2, 12, 7}, {30, 1, 4, 0}};
        for (int b = 0; b < 3; b++) {
            for (int what = 0; what < 4; what++) {
                E.due(x, "bar(0, " + b + ", " + what + ")", want[b][what]);
            }
        }
        E.keeps(States.RICH, "bar(0, 0, 0)", "bar(0, 6, 3)");

        E.says("7", "BEYOND.");
        E.refused(States.RICH, "bar(?, 0, 0)", BEYOND, Edges.NO_PART);
        E.refused(States.RICH, "bar(2, ?, 0)", BEYOND, 0, -1, MIN, MAX);
        E.refused(States.RICH, "bar(0, ?, 0)", BEYOND, -1, 7, 40, MIN, MAX);
        E.refused(States.FULL, "bar(3, ?, 0)", BEYOND, -1, 40);
        E.refused(States.RICH, "bar(0, 0, ?)", BEYOND, -1, 4, MIN, MAX);
        E.refused(States.NEW, "bar(0, 0, 0)", BEYOND);
    }

    private static void change() {
        E.says("8", "HAND (what 1), MARKS (3) of a BAR becomes v: what it was.");
        PageTurns x = Check.with("busy 5 beats 2 busy 6 keep wish");
        E.due("hand", x.change(0, 0, 1, 2), 0);
        E.due("hand", x.change(0, 0, 1, 0), 2);
        E.due("the same", x.change(0, 0, 1, 0), 0);
        E.due("marks of the last", x.change(0, 1, 3, 7), 5);
        E.due("marks of the last", x.change(0, 1, 3, 0), 7);
        E.due("marks of the first", x.change(0, 0, 3, 2), 0);
        int[][] want = {{5, 0, 2, 2}, {6, 0, 4, 0}};
        for (int b = 0; b < 2; b++) {
            for (int what = 0; what < 4; what++) {
                E.due(x, "bar(0, " + b + ", " + what + ")", want[b][what]);
            }
        }

        PageTurns y = Check.with("2(busy 60)");
        y.rule(1, 1);
        E.due("a laying that was asked before", y.best(0, 0), 1);
        y.change(0, 1, 1, 2);
        E.due("a hand is free", y.best(0, 0), 0);
        y.change(0, 1, 1, 0);
        E.due("a hand is busy", y.best(0, 0), 1);
        y.change(0, 0, 3, 1);
        E.due("keep: no laying", y.best(0, 2), Check.NONE);
        y.change(0, 0, 3, 0);
        E.due("not keep: two pages", y.best(0, 2), 2);

        E.says("8", "BEYOND.");
        E.refused(States.RICH, "change(?, 0, 1, 1)", BEYOND, Edges.NO_PART);
        E.refused(States.RICH, "change(0, ?, 1, 1)", BEYOND, -1, 7, 40, MIN, MAX);
        E.refused(States.RICH, "change(2, ?, 3, 1)", BEYOND, 0, MIN, MAX);
        E.refused(States.FULL, "change(0, 40, 1, 1)", BEYOND);
        E.refused(States.RICH, "change(0, 0, ?, 1)", BEYOND, 0, 2, -1, 4, MIN, MAX);
        E.refused(States.RICH, "change(0, 1, 1, ?)", BEYOND, -1, 3, MIN, MAX);
        E.refused(States.RICH, "change(0, 1, 3, ?)", BEYOND, -1, 8, MIN, MAX);
    }

    private static void cut() {
        E.says("9", "n (1 or more) BARS of a PART from one on are cut: how many there are then.");
        PageTurns x = Check.with("busy 1 busy 2 busy 3 busy 4 busy 5 busy 6");
        Check.read(x, 1, "busy 9");
        E.due("one in the midst", x.cut(0, 2, 1), 5);
        E.due("the last", x.cut(0, 4, 1), 4);
        E.due("the first", x.cut(0, 0, 1), 3);
        int[] rooms = {2, 4, 5};
        for (int b = 0; b < 3; b++) {
            E.due(x, "bar(0, " + b + ", 0)", rooms[b]);
        }
        E.due("all behind one", x.cut(0, 1, 2), 1);
        E.due("it", x.bar(0, 0, 0), 2);
        E.due("the only one", x.cut(0, 0, 1), 0);
        E.due("another part's", x.bar(1, 0, 0), 9);
        PageTurns y = Check.with("8(5(busy 1))");
        E.due("39 of 40", y.cut(0, 1, 39), 1);
        PageTurns z = Check.with("8(5(busy 1))");
        E.due("40 of 40", z.cut(0, 0, 40), 0);
        E.due("room for 40 again", Check.read(z, 0, "8(5(busy 2))"), 40);
        E.due("the last of them", z.bar(0, 39, 0), 2);
    }

    private static void cutRefused() {
        E.says("9", "BEYOND: part, bar, n.");
        E.refused(NO_BREAKS, "cut(?, 0, 1)", BEYOND, Edges.NO_PART);
        E.refused(NO_BREAKS, "cut(0, ?, 1)", BEYOND, -1, 7, 40, MIN, MAX);
        E.refused(NO_BREAKS, "cut(2, ?, 1)", BEYOND, 0, MIN, MAX);
        E.refused(NO_BREAKS, "cut(0, 0, ?)", BEYOND, 0, -1, 8, 41, MIN, MAX);
        E.refused(NO_BREAKS, "cut(0, 6, ?)", BEYOND, 0, -1, 2, MIN, MAX, MAX - 5);
        E.refused(NO_BREAKS, "cut(0, 3, ?)", BEYOND, 5, MAX - 2, MAX - 3);
        // Ahead of STATE.
        E.refused(States.RICH, "cut(0, 0, ?)", BEYOND, 0, 8);

        E.says("9", "STATE: a BREAK of that PART is told.");
        E.refused(States.RICH, "cut(0, 0, 1)", Check.STATE);
        E.refused(States.RICH, "cut(0, 6, 1)", Check.STATE);
        E.refused(States.RICH, "cut(0, 0, 7)", Check.STATE);
        E.refused(States.RICH, "cut(3, 2, 1)", Check.STATE);
        E.refused(States.FULL, "cut(3, 39, 1)", Check.STATE);
        PageTurns x = NO_BREAKS.get();
        E.due("breaks of others are no matter", x.cut(0, 0, 1), 6);
        x.lay(0, 0, 0);
        E.due("one break", x.cut(0, 5, 1), Check.STATE);
        x.clear(0);
        E.due("none again", x.cut(0, 5, 1), 5);
    }

    private static void free() {
        E.says("10", "FREE behind a BAR (how 0), BY HEART (1).");
        PageTurns x = Check.with("free 1 beats 3 busy 1 beats 2 half 1 beats 12");
        x.set(0, 1, 1);
        int[][] want = {{300, 300 + 200 + 600}, {600, 1200}, {600, 600}};
        for (int b = 0; b < 3; b++) {
            E.due(x, "free(0, " + b + ", 0)", want[b][0]);
            E.due(x, "free(0, " + b + ", 1)", want[b][1]);
        }
        E.keeps(States.RICH, "free(0, 0, 0)", "free(0, 6, 1)");

        E.says("10", "BEYOND.");
        E.refused(States.RICH, "free(?, 0, 0)", BEYOND, Edges.NO_PART);
        E.refused(States.RICH, "free(0, ?, 0)", BEYOND, -1, 7, 40, MIN, MAX);
        E.refused(States.RICH, "free(2, ?, 1)", BEYOND, 0, MIN, MAX);
        E.refused(States.FULL, "free(0, 40, 1)", BEYOND);
        E.refused(States.RICH, "free(0, 0, ?)", BEYOND, -1, 2, MIN, MAX);
    }

    private static void room() {
        E.says("11", "ROOM of a BAR at a SIZE.");
        PageTurns x = Check.with("busy 1 busy 33 busy 60");
        int[][] want = {{1, 1, 1}, {33, 27, 20}, {60, 48, 36}};
        for (int b = 0; b < 3; b++) {
            for (int s = 0; s < 3; s++) {
                E.due(x, "room(0, " + b + ", " + s + ")", want[b][s]);
            }
        }
        E.keeps(States.RICH, "room(0, 6, 2)");

        E.says("11", "BEYOND.");
        E.refused(States.RICH, "room(?, 0, 0)", BEYOND, Edges.NO_PART);
        E.refused(States.RICH, "room(0, ?, 0)", BEYOND, -1, 7, 40, MIN, MAX);
        E.refused(States.RICH, "room(2, ?, 0)", BEYOND, 0, MIN, MAX);
        E.refused(States.FULL, "room(0, 40, 0)", BEYOND);
        E.refused(States.RICH, "room(0, 0, ?)", BEYOND, -1, 3, MIN, MAX);
    }
}
