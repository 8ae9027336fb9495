import java.io.IOException;

/** Promises 23 to 29: each sentence with its edges. */
public final class BreaksEdgesTest {
    private static final Edges E = new Edges("BreaksEdgesTest");
    private static final int MIN = Integer.MIN_VALUE;
    private static final int MAX = Integer.MAX_VALUE;
    private static final int BEYOND = Check.BEYOND;
    private static final int KIND = Check.KIND;
    private static final int MISSING = Check.MISSING;

    public static void main(String[] args) throws IOException {
        lay();
        breakOf();
        clear();
        clearSpots();
        price();
        judgeFirst();
        judgeWidth();
        hold();
        as();
        E.finish("23", "24", "25", "26", "27", "28", "29");
    }

    private static void lay() {
        E.says("23", "A new BREAK: its number.");
        PageTurns x = Check.with("8(5(busy 1))");
        for (int k = 0; k < 30; k++) {
            E.due("break " + k, x.lay(k % 7, 0, 39 - k), k);
        }
        for (int k = 0; k < 30; k++) {
            E.due("kind of break " + k, x.breakOf(k, 0), k % 7);
            E.due("bar of break " + k, x.breakOf(k, 2), 39 - k);
        }
        PageTurns same = Check.with("busy 1");
        E.due("one", same.lay(0, 0, 0), 0);
        E.due("just such another", same.lay(0, 0, 0), 1);

        E.says("23", "BEYOND: kind, part, bar.");
        E.refused(States.RICH, "lay(?, 0, 0)", BEYOND, -1, 7, MIN, MAX);
        E.refused(States.RICH, "lay(0, ?, 0)", BEYOND, Edges.NO_PART);
        E.refused(States.RICH, "lay(0, 0, ?)", BEYOND, -1, 7, 40, MIN, MAX);
        E.refused(States.RICH, "lay(0, 2, ?)", BEYOND, 0, -1, MIN, MAX);
        E.refused(States.NEW, "lay(0, 0, 0)", BEYOND);
        E.refused(States.FULL, "lay(7, 0, 0)", BEYOND);
        E.refused(States.FULL, "lay(0, 4, 0)", BEYOND);
        E.refused(States.FULL, "lay(0, 0, 40)", BEYOND);
        PageTurns y = States.RICH.get();
        E.due("the last kind, part and bar", y.lay(6, 3, 2), 4);
        E.due("the first of each", y.lay(0, 0, 0), 5);

        E.says("23", "FULL.");
        E.due("a 31st", x.lay(0, 0, 0), Check.FULL);
        E.due("there are 30", x.count(1), 30);
        E.refused(States.FULL, "lay(0, 0, 0)", Check.FULL);
        E.refused(States.FULL, "lay(6, 3, 39)", Check.FULL);
        x.clear(0);
        E.due("room again", x.lay(0, 0, 0), 0);
    }

    private static void breakOf() {
        E.says("24", "Of a BREAK: what 0 kind, 1 PART, 2 BAR, 3 1 if it MAY be, else 0, 4 PRICE.");
        PageTurns x = Check.with("busy 1 keep busy 1");
        Check.read(x, 3, "8(5(busy 1))");
        x.lay(0, 0, 0);
        x.lay(6, 3, 39);
        x.lay(4, 3, 0);
        int[][] want = {{0, 0, 0, 0, 1}, {6, 3, 39, 0, 41}, {4, 3, 0, 1, 22}};
        for (int k = 0; k < 3; k++) {
            for (int what = 0; what < 5; what++) {
                E.due(x, "breakOf(" + k + ", " + what + ")", want[k][what]);
            }
        }
        E.keeps(States.RICH, "breakOf(0, 0)", "breakOf(3, 3)", "breakOf(2, 4)");

        E.says("24", "BEYOND.");
        E.refused(States.RICH, "breakOf(?, 0)", BEYOND, -1, 4, 30, MIN, MAX);
        E.refused(States.FULL, "breakOf(?, 0)", BEYOND, -1, 30);
        E.refused(States.NEW, "breakOf(?, 0)", BEYOND, 0, -1);
        E.refused(States.RICH, "breakOf(0, ?)", BEYOND, -1, 5, MIN, MAX);
        E.due("the last of 30", States.FULL.get().breakOf(29, 2), 29);
    }

    private static void clear() {
        PageTurns x = Check.with("busy 1");
        Check.read(x, 1, "3(busy 1)");
        Check.read(x, 2, "busy 1");
        E.says("25", "All BREAKS of a PART go");
        x.lay(0, 0, 0);
        x.lay(1, 1, 0);
        x.lay(2, 0, 0);
        x.lay(3, 1, 1);
        x.lay(4, 0, 0);
        x.lay(5, 1, 2);
        x.clear(0);
        E.due("three are left", x.count(1), 3);
        for (int k = 0; k < 3; k++) {
            E.due("part of break " + k, x.breakOf(k, 1), 1);
        }

        E.says("25", "(others close up, and are numbered anew;");
        for (int k = 0; k < 3; k++) {
            E.due("kind of break " + k, x.breakOf(k, 0), 2 * k + 1);
            E.due("bar of break " + k, x.breakOf(k, 2), k);
        }
        E.due("no break 3", x.breakOf(3, 0), BEYOND);
        E.due("the next one is 3", x.lay(6, 2, 0), 3);
        E.due("those ahead stay", x.clear(2), 1);
        for (int k = 0; k < 3; k++) {
            E.due("kind of break " + k, x.breakOf(k, 0), 2 * k + 1);
        }

        E.says("25", "how many went.");
        E.due("none", x.clear(0), 0);
        E.due("none of a part without bars", x.clear(3), 0);
        E.due("three", x.clear(1), 3);
        E.due("none more", x.clear(1), 0);
        for (int k = 0; k < 30; k++) {
            x.lay(0, 2, 0);
        }
        E.due("none of another", x.clear(1), 0);
        E.due("thirty", x.clear(2), 30);
        E.due("none are left", x.count(1), 0);
        E.due("of a new object", new PageTurns().clear(3), 0);

        E.says("25", "BEYOND.");
        E.refused(States.RICH, "clear(?)", BEYOND, Edges.NO_PART);
        E.refused(States.FULL, "clear(?)", BEYOND, -1, 4);
        E.refused(States.NEW, "clear(?)", BEYOND, -1, 4);
    }

    private static void clearSpots() {
        E.says("25", "SPOTS that held one that is gone hold nothing):");
        PageTurns x = Check.with("busy 1");
        Check.read(x, 1, "busy 1");
        for (int k = 0; k < 10; k++) {
            x.lay(0, k % 2, 0);
            x.hold(9 - k, k);
        }
        x.clear(0);
        for (int k = 0; k < 10; k++) {
            E.due("spot " + (9 - k), x.as(9 - k, 0), k % 2 == 0 ? MISSING : k / 2);
        }
        E.due("five hold something", x.count(3), 5);
        // A new break gets the number of one that is gone, but no spot.
        for (int k = 5; k < 10; k++) {
            E.due("a new one", x.lay(0, 0, 0), k);
        }
        E.due("five hold something", x.count(3), 5);
        x.clear(1);
        E.due("no spot holds anything", x.count(3), 0);
        E.due("nor the last one", x.as(0, 0), MISSING);
        // Two spots that hold one break.
        x.hold(0, 4);
        x.hold(9, 4);
        E.due("both", x.count(3), 2);
        x.clear(0);
        E.due("none", x.count(3), 0);
    }

    private static void price() {
        E.says("26", "PRICES of all BREAKS of a PART together.");
        PageTurns x = Check.with("busy 1");
        Check.read(x, 1, "busy 1");
        E.due("none", x.price(0), 0);
        int[] prices = {1, 3, 11, 41, 22, 20, 41};
        int sum = 0;
        for (int kind = 0; kind < 7; kind++) {
            x.lay(kind, 0, 0);
            x.lay(0, 1, 0);
            sum += prices[kind];
            E.due("up to kind " + kind, x.price(0), sum);
        }
        E.due("seven of 1", x.price(1), 7);
        E.due("a part without bars", x.price(2), 0);
        PageTurns full = Check.with("busy 1");
        full.set(0, 1, 8);
        for (int k = 0; k < 30; k++) {
            full.lay(6, 0, 0);
        }
        E.due("thirty of 49", full.price(0), 1470);
        E.keeps(States.RICH, "price(0)", "price(2)");

        E.says("26", "BEYOND.");
        E.refused(States.RICH, "price(?)", BEYOND, Edges.NO_PART);
        E.refused(States.NEW, "price(?)", BEYOND, -1, 4);
    }

    private static void judgeFirst() {
        E.says("27", "BREAKS of a PART, as they are numbered, looked at: 1 and i for the first of them (from 0)");
        PageTurns x = Check.with("8(5(busy 1 keep))");
        x.change(0, 38, 3, 0);
        Check.read(x, 1, "busy 1");
        x.lay(0, 1, 0);
        x.lay(0, 0, 0);
        E.due("the first: 1 and 0", x.judge(0), 1);
        x.change(0, 0, 3, 0);
        E.due("none", x.judge(0), 0);
        x.lay(0, 1, 0);
        x.lay(0, 0, 1);
        E.due("the second of this part: 1 and 1", x.judge(0), 2);
        x.lay(0, 0, 2);
        E.due("still the first of two that are wrong", x.judge(0), 2);
        PageTurns full = Check.with("8(5(busy 1))");
        for (int b = 0; b < 29; b++) {
            full.lay(0, 0, b);
        }
        E.due("29 are right", full.judge(0), 0);
        full.lay(0, 0, 28);
        E.due("the 30th: 1 and 29", full.judge(0), 30);

        E.says("27", "that doesn't stand behind a greater BAR than the one ahead,");
        PageTurns y = Check.with("4(busy 1)");
        y.lay(0, 0, 1);
        E.due("the first may be anywhere", y.judge(0), 0);
        y.lay(0, 0, 2);
        E.due("greater", y.judge(0), 0);
        y.lay(0, 0, 2);
        E.due("the same", y.judge(0), 3);
        y.clear(0);
        y.lay(0, 0, 1);
        y.lay(0, 0, 0);
        E.due("less", y.judge(0), 2);
        y.clear(0);
        y.lay(0, 0, 0);
        E.due("bar 0 as the first", y.judge(0), 0);
        y.lay(0, 0, 3);
        E.due("the last bar", y.judge(0), 0);

        E.says("27", "or MAY not be,");
        PageTurns z = Check.with("busy 1 busy 1 keep free 1 beats 2 busy 1");
        z.lay(2, 0, 0);
        E.due("it may", z.judge(0), 0);
        z.lay(3, 0, 2);
        E.due("200 free, 150 are needed", z.judge(0), 0);
        z.rule(2, 200);
        E.due("200 free, 200 are needed", z.judge(0), 0);
        z.rule(2, 201);
        E.due("200 free, 201 are needed", z.judge(0), 2);
        z.clear(0);
        z.lay(1, 0, 1);
        E.due("keep", z.judge(0), 1);
        z.clear(0);
        z.cut(0, 2, 2);
        z.lay(1, 0, 1);
        E.due("keep, but the last", z.judge(0), 0);
    }

    private static void judgeWidth() {
        E.says("27", "or whose LINE (from behind the BAR of the one ahead, at SIZE 0) is wider than WIDTH;");
        PageTurns x = Check.with("busy 30 busy 30 busy 29 busy 30 busy 1 busy 1");
        x.lay(0, 0, 1);
        x.lay(0, 0, 4);
        E.due("60 and 60", x.judge(0), 0);
        x.rule(0, 59);
        E.due("60 is wider than 59", x.judge(0), 1);
        x.rule(0, 60);
        x.clear(0);
        x.lay(0, 0, 2);
        E.due("89 from bar 0 on", x.judge(0), 1);
        x.clear(0);
        x.lay(0, 0, 0);
        x.lay(0, 0, 2);
        x.lay(0, 0, 5);
        E.due("30, 59 and 32", x.judge(0), 0);
        x.clear(0);
        x.lay(0, 0, 1);
        x.lay(0, 0, 5);
        E.due("60 and 61", x.judge(0), 2);

        E.says("27", "1 and how many they are, if BARS behind the last one (all, without any) are wider;");
        PageTurns y = Check.with("busy 60");
        E.due("all: 60", y.judge(0), 0);
        Check.read(y, 0, "busy 1");
        E.due("all: 61", y.judge(0), 1);
        y.lay(0, 0, 0);
        E.due("1 behind the last", y.judge(0), 0);
        Check.read(y, 0, "busy 59");
        E.due("60 behind the last", y.judge(0), 0);
        Check.read(y, 0, "busy 1");
        E.due("61 behind the last: 1 and 1", y.judge(0), 2);
        y.lay(0, 0, 1);
        E.due("60 behind the last of two", y.judge(0), 0);
        Check.read(y, 0, "busy 1");
        E.due("61 behind the last of two: 1 and 2", y.judge(0), 3);
        y.lay(0, 0, 4);
        E.due("61 ahead of the last, none behind it", y.judge(0), 3);

        E.says("27", "else 0.");
        E.due("no bars", y.judge(1), 0);
        E.due("a new object", new PageTurns().judge(3), 0);
        y.clear(0);
        y.lay(0, 0, 0);
        y.lay(0, 0, 2);
        E.due("60, 60 and 2", y.judge(0), 0);
        E.keeps(States.RICH, "judge(0)", "judge(2)", "judge(3)");

        E.says("27", "BEYOND.");
        E.refused(States.RICH, "judge(?)", BEYOND, Edges.NO_PART);
        E.refused(States.NEW, "judge(?)", BEYOND, -1, 4);
    }

    private static void hold() {
        E.says("28", "A SPOT holds a BREAK, or nothing (-1): 1.");
        PageTurns x = Check.with("busy 1");
        for (int k = 0; k < 30; k++) {
            x.lay(0, 0, 0);
        }
        E.due("the first", x.hold(0, 0), 1);
        E.due("the last", x.hold(9, 29), 1);
        E.due("it is 0", x.as(0, 0), 0);
        E.due("it is 29", x.as(9, 0), 29);
        E.due("another in its place", x.hold(9, 3), 1);
        E.due("it is 3", x.as(9, 0), 3);
        E.due("nothing", x.hold(9, -1), 1);
        E.due("nothing again", x.hold(9, -1), 1);
        E.due("it is missing", x.as(9, 0), MISSING);
        E.due("the other stays", x.count(3), 1);
        E.due("nothing, in a new object", new PageTurns().hold(5, -1), 1);

        E.says("28", "BEYOND.");
        E.refused(States.RICH, "hold(?, 0)", BEYOND, -1, 10, MIN, MAX);
        E.refused(States.RICH, "hold(?, -1)", BEYOND, -1, 10, MIN, MAX);
        E.refused(States.RICH, "hold(0, ?)", BEYOND, -2, 4, 30, MIN, MAX);
        E.refused(States.RICH, "hold(5, ?)", BEYOND, -2, 4, 30, MIN, MAX);
        E.refused(States.FULL, "hold(0, ?)", BEYOND, -2, 30);
        E.refused(States.NEW, "hold(0, ?)", BEYOND, 0, -2);
    }

    private static void as() {
        E.says("29", "What a SPOT holds as one of a kind (0 to 6): the number of the BREAK.");
        PageTurns x = Check.with("busy 1");
        for (int k = 0; k < 30; k++) {
            x.lay(k % 7, 0, 0);
        }
        for (int kind = 0; kind < 7; kind++) {
            x.hold(kind, kind + 21);
            E.due("as itself", x.as(kind, kind), kind + 21);
            E.due("as a break", x.as(kind, 0), kind + 21);
        }
        E.keeps(States.RICH, "as(0, 0)", "as(9, 4)");

        E.says("29", "BEYOND.");
        E.refused(States.RICH, "as(?, 0)", BEYOND, -1, 10, MIN, MAX);
        E.refused(States.RICH, "as(0, ?)", BEYOND, -1, 7, MIN, MAX);
        E.refused(States.RICH, "as(1, ?)", BEYOND, -1, 7, MIN, MAX);

        E.says("29", "MISSING: it holds nothing.");
        E.refused(States.NEW, "as(?, 0)", MISSING, 0, 9);
        E.refused(States.RICH, "as(?, 6)", MISSING, 1, 2, 4, 8);

        E.says("29", "KIND: it isn't of that kind, nor of one under it.");
        // What each kind is not: its own under-kinds, and those aside.
        String[] not = {"123456", "23456", "13456", "1456", "1356", "146", "145"};
        for (int kind = 0; kind < 7; kind++) {
            for (int i = 0; i < not[kind].length(); i++) {
                int other = not[kind].charAt(i) - '0';
                E.due("kind " + kind + " as " + other, x.as(kind, other), KIND);
            }
        }
        E.refused(States.RICH, "as(0, ?)", KIND, 2, 3, 6);
        E.refused(States.RICH, "as(3, ?)", KIND, 1, 4, 5);
        E.refused(States.RICH, "as(9, ?)", KIND, 1, 3);
    }
}
