/** Promises 23 to 29: breaks of kinds, what they cost, and spots that hold them. */
public final class BreaksTest {
    private static final Check C = new Check("BreaksTest");
    private static final int BEYOND = Check.BEYOND;
    private static final int KIND = Check.KIND;
    private static final int MISSING = Check.MISSING;
    private static final int[] WRONG_PARTS = {-1, 4, Integer.MIN_VALUE, Integer.MAX_VALUE};

    public static void main(String[] args) {
        lay();
        breakOf();
        may();
        prices();
        clear();
        priceOfPart();
        judge();
        hold();
        as();
        C.finish();
    }

    private static void lay() {
        PageTurns x = Check.with("busy 1 busy 2");
        C.due("kind -1", x.lay(-1, 0, 0), BEYOND);
        C.due("kind 7", x.lay(7, 0, 0), BEYOND);
        C.due("bar 2", x.lay(0, 0, 2), BEYOND);
        C.due("bar -1", x.lay(0, 0, -1), BEYOND);
        C.due("part 1 has no bars", x.lay(0, 1, 0), BEYOND);
        for (int p : WRONG_PARTS) {
            C.due("part " + p, x.lay(0, p, 0), BEYOND);
        }
        for (int k = 0; k < 30; k++) {
            C.due("lay", x.lay(k % 7, 0, k % 2), k);
        }
        C.due("no room for one more", x.lay(0, 0, 0), Check.FULL);
        C.due("BEYOND goes first", x.lay(0, 0, 2), BEYOND);
        C.due("count", x.count(1), 30);
    }

    private static void breakOf() {
        PageTurns x = Check.with("busy 1 busy 2");
        Check.read(x, 3, "3(busy 1)");
        x.lay(4, 0, 1);
        x.lay(6, 3, 2);
        int[][] want = {{4, 0, 1, 1}, {6, 3, 2, 0}};
        for (int k = 0; k < 2; k++) {
            for (int what = 0; what < 4; what++) {
                C.due("breakOf(" + k + ", " + what + ")", x.breakOf(k, what), want[k][what]);
            }
        }
        C.due("break 2", x.breakOf(2, 0), BEYOND);
        C.due("break -1", x.breakOf(-1, 0), BEYOND);
        C.due("break far", x.breakOf(Integer.MAX_VALUE, 0), BEYOND);
        C.due("what -1", x.breakOf(0, -1), BEYOND);
        C.due("what 5", x.breakOf(0, 5), BEYOND);
    }

    private static void mayBe(PageTurns x, int kind, int bar, int want) {
        int k = x.lay(kind, 0, bar);
        C.due("may of kind " + kind + " behind " + bar, x.breakOf(k, 3), want);
        x.clear(0);
    }

    private static void may() {
        // Behind bar 1 is keep; 200 are free behind bars 2 and 3.
        PageTurns x = Check.with("busy 1 busy 1 keep busy 1 free 1 beats 2 busy 1 busy 1 keep");
        Check.read(x, 1, "free 1 beats 4 free 1 beats 4");
        x.rule(2, 200);
        int[] always = {0, 1, 2, 4};
        for (int kind : always) {
            mayBe(x, kind, 0, 1);
            mayBe(x, kind, 1, 0);
            mayBe(x, kind, 5, 1);
        }
        mayBe(x, 3, 2, 1);
        mayBe(x, 3, 4, 0);
        mayBe(x, 3, 5, 0);
        x.rule(2, 201);
        mayBe(x, 3, 2, 0);
        mayBe(x, 5, 2, 0);
        mayBe(x, 5, 0, 0);
        x.set(0, 2, 1);
        mayBe(x, 5, 0, 1);
        mayBe(x, 5, 1, 0);
        mayBe(x, 5, 2, 0);
        mayBe(x, 3, 0, 0);
        x.rule(2, 200);
        mayBe(x, 5, 2, 1);
        x.rule(2, 800);
        mayBe(x, 5, 0, 1);
        x.rule(2, 801);
        mayBe(x, 5, 0, 0);
        x.rule(2, 600);
        mayBe(x, 6, 2, 0);
        x.set(0, 1, 2);
        mayBe(x, 6, 2, 1);
        mayBe(x, 3, 2, 0);
        x.rule(2, 601);
        mayBe(x, 6, 2, 0);
        x.rule(2, 0);
        mayBe(x, 6, 1, 0);
        mayBe(x, 3, 1, 0);
        mayBe(x, 5, 1, 0);
        // A bar that was the last one is not, when others come.
        int k = x.lay(0, 0, 5);
        C.due("the last one", x.breakOf(k, 3), 1);
        Check.read(x, 0, "busy 1");
        C.due("no more", x.breakOf(k, 3), 0);
        x.change(0, 5, 3, 0);
        C.due("not keep", x.breakOf(k, 3), 1);
    }

    private static void prices() {
        PageTurns x = Check.with("busy 1 free 1 beats 1 busy 1 busy 1 free 1 beats 3 busy 1");
        x.set(0, 1, 5);
        int[] behind0 = {1, 3, 11, 31, 22, 15, 36};
        int[] behind4 = {1, 3, 11, 11, 22, 5, 16};
        for (int kind = 0; kind < 7; kind++) {
            x.lay(kind, 0, 0);
            x.lay(kind, 0, 4);
        }
        for (int kind = 0; kind < 7; kind++) {
            C.due("price of kind " + kind + " behind 0", x.breakOf(2 * kind, 4), behind0[kind]);
            C.due("price of kind " + kind + " behind 4", x.breakOf(2 * kind + 1, 4), behind4[kind]);
        }
        x.set(0, 0, 31);
        C.due("193 free: 107 by 10, cut", x.breakOf(6, 4), 21);
        C.due("580 free: 0 at least", x.breakOf(7, 4), 11);
        x.set(0, 0, 61);
        C.due("295 free: 5 by 10, cut", x.breakOf(7, 4), 11);
        x.set(0, 0, 63);
        C.due("285 free: 15 by 10, cut", x.breakOf(7, 4), 12);
    }

    private static void clear() {
        PageTurns x = Check.with("busy 1 busy 1 busy 1");
        Check.read(x, 1, "busy 1 busy 1 busy 1");
        int[] parts = {0, 1, 1, 0, 1, 0};
        for (int k = 0; k < parts.length; k++) {
            x.lay(k, parts[k], k % 3);
            x.hold(k, k);
        }
        x.hold(6, 4);
        for (int p : WRONG_PARTS) {
            C.due("clear(" + p + ")", x.clear(p), BEYOND);
        }
        C.due("clear of none", x.clear(2), 0);
        C.due("count", x.count(1), 6);
        C.due("clear", x.clear(0), 3);
        C.due("count", x.count(1), 3);
        C.due("spots that hold something", x.count(3), 4);
        int[] kinds = {1, 2, 4};
        for (int k = 0; k < 3; k++) {
            C.due("kind", x.breakOf(k, 0), kinds[k]);
            C.due("part", x.breakOf(k, 1), 1);
            C.due("bar", x.breakOf(k, 2), kinds[k] % 3);
        }
        C.due("break 3", x.breakOf(3, 0), BEYOND);
        int[] spots = {MISSING, 0, 1, MISSING, 2, MISSING, 2, MISSING};
        for (int s = 0; s < spots.length; s++) {
            C.due("spot " + s, x.as(s, 0), spots[s]);
        }
        C.due("a new one", x.lay(0, 0, 0), 3);
        C.due("the spot stays empty", x.as(3, 0), MISSING);
        C.due("clear the other", x.clear(1), 3);
        C.due("no spot holds anything", x.count(3), 0);
        C.due("the new one has moved", x.breakOf(0, 1), 0);
    }

    private static void priceOfPart() {
        PageTurns x = Check.with("busy 1 busy 1");
        Check.read(x, 1, "busy 1");
        C.due("none", x.price(0), 0);
        x.lay(1, 0, 0);
        x.lay(4, 1, 0);
        x.lay(3, 0, 1);
        C.due("3 and 41", x.price(0), 44);
        C.due("22", x.price(1), 22);
        C.due("another", x.price(2), 0);
        for (int p : WRONG_PARTS) {
            C.due("price(" + p + ")", x.price(p), BEYOND);
        }
    }

    private static void judge() {
        PageTurns x = Check.with("busy 30 busy 30 busy 30 keep busy 30 busy 30");
        C.due("all are too wide", x.judge(0), 1);
        x.lay(1, 0, 1);
        C.due("those behind it are", x.judge(0), 2);
        Check.read(x, 1, "busy 60");
        x.lay(2, 1, 0);
        C.due("another part's is no matter", x.judge(0), 2);
        C.due("the other part", x.judge(1), 0);
        x.lay(1, 0, 2);
        C.due("behind a keep bar", x.judge(0), 2);
        x.change(0, 2, 3, 0);
        C.due("now it may be", x.judge(0), 0);
        x.lay(1, 0, 2);
        C.due("not behind a greater bar", x.judge(0), 3);
        x.clear(0);
        x.lay(0, 0, 1);
        x.lay(0, 0, 3);
        C.due("both may be", x.judge(0), 0);
        x.lay(3, 0, 4);
        C.due("no hand is free", x.judge(0), 3);
        x.rule(2, 0);
        C.due("nor needs to be", x.judge(0), 0);
        x.rule(0, 59);
        C.due("too wide", x.judge(0), 1);
        C.due("and the other", x.judge(1), 1);
        x.clear(0);
        x.rule(0, 60);
        x.lay(0, 0, 3);
        x.lay(0, 0, 1);
        C.due("four bars at once", x.judge(0), 1);
        C.due("no bars", x.judge(2), 0);
        Check.read(x, 3, "8(5(busy 5))");
        C.due("forty bars", x.judge(3), 1);
        x.rule(0, 200);
        C.due("forty bars in one line", x.judge(3), 0);
        for (int p : WRONG_PARTS) {
            C.due("judge(" + p + ")", x.judge(p), BEYOND);
        }
    }

    private static void hold() {
        PageTurns x = Check.with("busy 1");
        C.due("no such break", x.hold(0, 0), BEYOND);
        C.due("nothing", x.hold(0, -1), 1);
        C.due("break -2", x.hold(0, -2), BEYOND);
        x.lay(3, 0, 0);
        C.due("spot 9", x.hold(9, 0), 1);
        C.due("spot 0", x.hold(0, 0), 1);
        C.due("two hold it", x.count(3), 2);
        C.due("spot 10", x.hold(10, 0), BEYOND);
        C.due("spot -1", x.hold(-1, 0), BEYOND);
        C.due("spot -1, nothing", x.hold(-1, -1), BEYOND);
        C.due("break 1", x.hold(0, 1), BEYOND);
        C.due("it holds what it held", x.as(0, 3), 0);
        C.due("nothing", x.hold(0, -1), 1);
        C.due("one", x.count(3), 1);
        C.due("it holds nothing", x.as(0, 3), MISSING);
    }

    private static void as() {
        PageTurns x = Check.with("busy 1");
        String[] under = {"0", "01", "02", "023", "024", "0235", "0236"};
        for (int kind = 0; kind < 7; kind++) {
            x.lay(kind, 0, 0);
            x.hold(kind, kind);
        }
        for (int spot = 0; spot < 7; spot++) {
            for (int kind = 0; kind < 7; kind++) {
                boolean is = under[spot].indexOf('0' + kind) >= 0;
                C.due("as(" + spot + ", " + kind + ")", x.as(spot, kind), is ? spot : KIND);
            }
        }
        C.due("spot 7", x.as(7, 0), MISSING);
        C.due("spot 10", x.as(10, 0), BEYOND);
        C.due("spot -1", x.as(-1, 0), BEYOND);
        C.due("kind 7", x.as(0, 7), BEYOND);
        C.due("kind -1", x.as(0, -1), BEYOND);
        C.due("BEYOND goes ahead of MISSING", x.as(7, 7), BEYOND);
    }
}
