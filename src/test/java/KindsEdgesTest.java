import java.io.IOException;

/** The document's "Terms" of BREAKS, SPOTS and SHEETS: each sentence with its edges. */
public final class KindsEdgesTest {
    private static final Edges E = new Edges("KindsEdgesTest");
    private static final int MIN = Integer.MIN_VALUE;
    private static final int MAX = Integer.MAX_VALUE;
    private static final int BEYOND = Check.BEYOND;
    private static final int KIND = Check.KIND;
    private static final int MISSING = Check.MISSING;

    public static void main(String[] args) throws IOException {
        breaks();
        kinds();
        may();
        mayShared();
        mayHeart();
        prices();
        pricesByFree();
        spots();
        sheets();
        E.finish("T4");
    }

    private static void breaks() {
        E.says("T4", "BREAKS 0, 1, .. (at most 30) are told of a PART behind one of its BARS,");
        PageTurns x = Check.with("busy 1 busy 1");
        E.due("none at first", x.count(1), 0);
        E.due("no break 0", x.breakOf(0, 0), BEYOND);
        for (int k = 0; k < 30; k++) {
            E.due("break " + k, x.lay(0, 0, k % 2), k);
        }
        E.due("break 30", x.lay(0, 0, 0), Check.FULL);
        E.due("thirty", x.count(1), 30);
        E.due("the last", x.breakOf(29, 2), 1);
        E.due("none behind it", x.breakOf(30, 2), BEYOND);
        E.due("another part's count, too", Check.read(x, 1, "busy 1"), 1);
        E.due("break 30 of part 1", x.lay(0, 1, 0), Check.FULL);
        x.clear(0);
        E.due("the first bar", x.lay(0, 0, 0), 0);
        E.due("the last bar", x.lay(0, 0, 1), 1);
        E.due("behind the last bar", x.lay(0, 0, 2), BEYOND);
        E.due("of a part without bars", x.lay(0, 2, 0), BEYOND);
    }

    private static void kinds() {
        E.says("T4", "of kinds: 0 BREAK; 1 LINE, 2 PAGE under BREAK; 3 TURN, 4 FOLD under PAGE; "
                + "5 SHARED, 6 HEART under TURN.");
        PageTurns x = Check.with("busy 1");
        String[] under = {"0", "01", "02", "023", "024", "0235", "0236"};
        for (int kind = 0; kind < 7; kind++) {
            E.due("lay(" + kind + ", 0, 0)", x.lay(kind, 0, 0), kind);
            x.hold(kind, kind);
        }
        for (int spot = 0; spot < 7; spot++) {
            for (int kind = 0; kind < 7; kind++) {
                E.due(x, "as(" + spot + ", " + kind + ")", under[spot].indexOf('0' + kind) >= 0 ? spot : KIND);
            }
        }
        E.refused(States.RICH, "lay(?, 0, 0)", BEYOND, -1, 7, MIN, MAX);
        E.refused(States.RICH, "as(0, ?)", BEYOND, -1, 7, MIN, MAX);
    }

    /** Whether a break of that kind of part 0 may be. */
    private static void mayBe(PageTurns x, int kind, int bar, int want) {
        int k = x.lay(kind, 0, bar);
        E.due("may of kind " + kind + " behind bar " + bar, x.breakOf(k, 3), want);
        x.clear(0);
    }

    private static void may() {
        E.says("T4", "MAY: BREAK: if the BAR isn't KEEP, or is the last one.");
        PageTurns x = Check.with("busy 1 busy 1 keep busy 1 letter wish busy 1 keep");
        mayBe(x, 0, 0, 1);
        mayBe(x, 0, 1, 0);
        mayBe(x, 0, 2, 1);
        mayBe(x, 0, 3, 1);
        Check.read(x, 0, "busy 1");
        mayBe(x, 0, 3, 0);
        mayBe(x, 0, 4, 1);
        x.cut(0, 4, 1);
        mayBe(x, 0, 3, 1);

        E.says("T4", "LINE, PAGE, FOLD: as BREAK.");
        for (int kind : new int[] {1, 2, 4}) {
            mayBe(x, kind, 0, 1);
            mayBe(x, kind, 1, 0);
            mayBe(x, kind, 2, 1);
            mayBe(x, kind, 3, 1);
        }

        E.says("T4", "TURN: as PAGE, and FREE is NEED or more.");
        PageTurns y = Check.with("busy 1 free 1 beats 2 keep busy 1 busy 1 keep");
        y.set(0, 1, 8);
        y.rule(2, 200);
        mayBe(y, 3, 0, 1);
        mayBe(y, 3, 1, 0);
        y.rule(2, 201);
        mayBe(y, 3, 0, 0);
        mayBe(y, 3, 2, 0);
        y.rule(2, 0);
        mayBe(y, 3, 1, 0);
        mayBe(y, 3, 2, 1);
        mayBe(y, 3, 3, 1);
        y.rule(2, 1);
        mayBe(y, 3, 3, 0);
    }

    private static void mayShared() {
        E.says("T4", "SHARED: as TURN; or as PAGE, and FREE behind the BAR of that number of the NEIGHBOUR is NEED or more.");
        PageTurns x = Check.with("busy 1 free 1 beats 2 busy 1 busy 1 keep busy 1");
        Check.read(x, 1, "3(busy 1)free 1 beats 3");
        x.rule(2, 200);
        mayBe(x, 5, 1, 1);
        mayBe(x, 5, 2, 0);
        x.rule(2, 201);
        mayBe(x, 5, 1, 0);
        x.set(0, 2, 1);
        mayBe(x, 5, 1, 0);
        mayBe(x, 5, 2, 1);
        mayBe(x, 5, 3, 0);
        mayBe(x, 5, 4, 0);
        x.rule(2, 300);
        mayBe(x, 5, 2, 1);
        x.rule(2, 301);
        mayBe(x, 5, 2, 0);
        // A neighbour's hearts are no help.
        x.set(1, 1, 8);
        mayBe(x, 5, 2, 0);
        mayBe(x, 5, 0, 0);
        x.rule(2, 0);
        mayBe(x, 5, 4, 1);
        mayBe(x, 5, 3, 0);
        x.set(0, 2, -1);
        mayBe(x, 5, 2, 1);
    }

    private static void mayHeart() {
        E.says("T4", "HEART: as PAGE, and FREE BY HEART is NEED or more.");
        PageTurns x = Check.with("busy 1 busy 1 beats 1 keep busy 1 beats 2 busy 1 beats 5");
        x.rule(2, 300);
        mayBe(x, 6, 0, 0);
        x.set(0, 1, 1);
        mayBe(x, 6, 0, 0);
        x.set(0, 1, 2);
        mayBe(x, 6, 0, 1);
        mayBe(x, 6, 1, 0);
        mayBe(x, 3, 0, 0);
        x.rule(2, 301);
        mayBe(x, 6, 0, 0);
        x.set(0, 1, 8);
        x.rule(2, 800);
        mayBe(x, 6, 0, 1);
        x.rule(2, 801);
        mayBe(x, 6, 0, 0);
        mayBe(x, 6, 3, 0);
        x.rule(2, 0);
        mayBe(x, 6, 3, 1);
        mayBe(x, 6, 1, 0);
    }

    private static void priceIs(PageTurns x, int kind, int bar, int want) {
        int k = x.lay(kind, 0, bar);
        E.due("price of kind " + kind + " behind bar " + bar, x.breakOf(k, 4), want);
        x.clear(0);
    }

    private static void prices() {
        // Behind bar 0 nothing is free, behind bar 2 1200; bar 1 is keep.
        PageTurns x = Check.with("busy 1 busy 1 keep free 1 beats 12");
        String[] words = {"PRICE: BREAK: 1.", "LINE: as BREAK, and 2.", "PAGE: as BREAK, and 10."};
        int[] prices = {1, 3, 11};
        for (int kind = 0; kind < 3; kind++) {
            E.says("T4", words[kind]);
            priceIs(x, kind, 0, prices[kind]);
            priceIs(x, kind, 1, prices[kind]);
            priceIs(x, kind, 2, prices[kind]);
        }
        E.says("T4", "FOLD: as PAGE, twice.");
        priceIs(x, 4, 0, 22);
        priceIs(x, 4, 1, 22);
        priceIs(x, 4, 2, 22);
    }

    private static void pricesByFree() {
        E.says("T4", "TURN: as PAGE, and what FREE is below 300, by 10 (0 at least).");
        PageTurns x = Check.with("free 1 beats 3 busy 1 busy 1");
        x.set(0, 1, 8);
        priceIs(x, 3, 0, 11);
        priceIs(x, 3, 2, 11 + 30);
        int[][] speeds = {{61, 0}, {62, 1}, {63, 1}, {59, 0}, {30, 0}, {64, 1}, {65, 2}, {240, 22}};
        for (int[] s : speeds) {
            x.set(0, 0, s[0]);
            priceIs(x, 3, 0, 11 + s[1]);
        }

        E.says("T4", "SHARED: as TURN, by 2.");
        priceIs(x, 5, 0, 16);
        priceIs(x, 5, 2, 20);
        x.set(0, 0, 60);
        priceIs(x, 5, 0, 5);
        x.set(0, 2, 1);
        Check.read(x, 1, "3(free 1 beats 12)");
        priceIs(x, 5, 2, 20);

        E.says("T4", "HEART: as TURN (by FREE, too), and HEARTS.");
        priceIs(x, 6, 0, 11 + 8);
        priceIs(x, 6, 2, 41 + 8);
        // By heart 800 would be free behind bar 1, but FREE is 0.
        priceIs(x, 6, 1, 41 + 8);
        x.set(0, 1, 0);
        priceIs(x, 6, 0, 11);
        priceIs(x, 6, 2, 41);
    }

    private static void spots() {
        E.says("T4", "SPOTS 0 to 9 hold a BREAK or nothing (at first).");
        PageTurns x = Check.with("busy 1");
        x.lay(0, 0, 0);
        E.due("nothing at first", x.count(3), 0);
        for (int s = 0; s < 10; s++) {
            E.due("spot " + s + " at first", x.as(s, 0), MISSING);
        }
        for (int s = 0; s < 10; s++) {
            E.due("spot " + s, x.hold(s, 0), 1);
            E.due("spots", x.count(3), s + 1);
        }
        for (int s = 0; s < 10; s++) {
            E.due("spot " + s + " holds it", x.as(s, 0), 0);
            E.due("spot " + s + ", nothing", x.hold(s, -1), 1);
            E.due("spots", x.count(3), 9 - s);
            E.due("spot " + s + " holds nothing", x.as(s, 0), MISSING);
        }
        E.refused(States.RICH, "hold(?, 0)", BEYOND, -1, 10, MIN, MAX);
        E.refused(States.RICH, "hold(?, -1)", BEYOND, -1, 10, MIN, MAX);
        E.refused(States.RICH, "as(?, 0)", BEYOND, -1, 10, MIN, MAX);
    }

    private static void sheets() {
        E.says("T4", "SHEETS 0 to 3:");
        PageTurns x = new PageTurns();
        for (int s = 0; s < 4; s++) {
            E.due("sheet " + s, x.sheet(s, 8, s + 1), s + 1);
        }
        for (int s = 0; s < 4; s++) {
            E.due("the last number of " + s, x.write(s, s, 1), 1);
            E.due("none behind it of " + s, x.write(s, s + 1, 1), BEYOND);
        }
        E.refused(States.FULL, "sheet(?, 8, 1)", BEYOND, -1, 4, MIN, MAX);

        E.says("T4", "rows of at most 40 numbers");
        PageTurns y = new PageTurns();
        E.due("40", y.sheet(0, 8, 40), 40);
        E.due("the last", y.write(0, 39, 1), 1);
        E.due("none behind it", y.write(0, 40, 1), BEYOND);
        E.due("0", y.sheet(0, 8, 0), 0);
        E.due("none", y.write(0, 0, 1), BEYOND);
        E.refused(States.RICH, "sheet(0, 8, ?)", BEYOND, 41, MAX);

        E.says("T4", "of 8, 16 or 32 bits,");
        PageTurns z = Check.with("4(busy 1)");
        int[] came = {4, 2, 1};
        for (int i = 0; i < 3; i++) {
            z.sheet(i, 8 << i, 4);
            z.write(i, 0, 5);
            z.write(i, 1, 256 + 5);
            z.write(i, 2, 65536 + 5);
            z.write(i, 3, 65536 + 256 + 5);
            E.due("numbers of " + (8 << i) + " bits that are 5", z.rooms(i, 0), came[i]);
        }
        E.refused(States.RICH, "sheet(0, ?, 3)", BEYOND, -8, -1, 1, 7, 9, 15, 17, 24, 31, 33, 64, MIN, MAX);

        E.says("T4", "or MISSING (at first).");
        for (int s = 0; s < 4; s++) {
            E.refused(States.NEW, "write(" + s + ", 0, 1)", MISSING);
        }
        PageTurns w = new PageTurns();
        w.sheet(2, 16, 3);
        E.due("not missing", w.write(2, 0, 1), 1);
        E.due("bits 0", w.sheet(2, 0, 3), 0);
        E.due("missing", w.write(2, 0, 1), MISSING);
        E.due("another one is, too", w.write(1, 0, 1), MISSING);
    }
}
