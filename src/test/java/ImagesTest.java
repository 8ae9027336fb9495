/** Promises 35 to 39: images, counts, status. */
public final class ImagesTest {
    private static final Check C = new Check("ImagesTest");
    private static final int BEYOND = Check.BEYOND;
    private static final int NONE = Check.NONE;

    public static void main(String[] args) {
        imageAndUndo();
        tear();
        count();
        status();
        findingsOfEachKind();
        C.finish();
    }

    private static void imageAndUndo() {
        PageTurns x = Check.with("busy 10 keep half 11 beats 3");
        Check.read(x, 3, "free 12");
        x.set(0, 0, 100);
        x.set(0, 1, 3);
        x.set(0, 2, 3);
        x.set(0, 3, 6);
        x.rule(0, 70);
        x.rule(1, 2);
        x.rule(2, 10);
        x.rule(3, 4);
        x.rule(4, 5);
        x.lay(3, 0, 1);
        x.lay(4, 3, 0);
        x.hold(2, 1);
        x.sheet(0, 8, 2);
        Check.feed(x, "busy");
        C.due("undo of nothing", x.undo(), NONE);
        C.due("image", x.image(), 1);
        spoil(x);
        C.due("undo", x.undo(), 3);
        asKept(x);
        C.due("it stays", x.undo(), 3);
        spoil(x);
        C.due("undo again", x.undo(), 3);
        asKept(x);
        C.due("the tape isn't kept", x.count(2), 12);
        C.due("nor are sheets", x.write(0, 0, 1), Check.MISSING);
        C.due("nor sheets that were not there", x.write(1, 4, 1), 1);
        C.due("findings stay", x.status(3), 1);
        C.due("a new image", x.cut(1, 0, 1), BEYOND);
        C.due("a fault on the tape that stayed", x.read(1), -6);
        C.due("bars", Check.read(x, 1, "busy 5"), 1);
        C.due("the latest", x.image(), 1);
        C.due("bars", Check.read(x, 1, "busy 6"), 2);
        C.due("undo", x.undo(), 4);
        C.due("the latest", x.bar(1, 0, 0), 5);
        C.due("not more", x.bar(1, 1, 0), BEYOND);
    }

    private static void spoil(PageTurns x) {
        x.wipe();
        Check.read(x, 1, "9(busy 1)");
        Check.read(x, 3, "2(busy 2)");
        x.change(0, 0, 1, 2);
        x.change(0, 0, 3, 0);
        x.clear(0);
        x.clear(3);
        x.cut(0, 1, 1);
        for (int p = 0; p < 4; p++) {
            x.set(p, 0, 30 + p);
            x.set(p, 1, 8);
            x.set(p, 2, (p + 1) % 4);
            x.set(p, 3, 1023);
        }
        x.rule(0, 71);
        x.rule(1, 3);
        x.rule(2, 11);
        x.rule(3, 5);
        x.rule(4, 6);
        x.lay(0, 1, 0);
        x.hold(5, 0);
        x.sheet(0, 0, 0);
        x.sheet(1, 8, 5);
        Check.feed(x, "busy 9999999");
    }

    private static void asKept(PageTurns x) {
        int[][] bars = {{10, 0, 4, 1}, {11, 1, 3, 0}};
        for (int b = 0; b < 2; b++) {
            for (int what = 0; what < 4; what++) {
                C.due("bar " + b + " what " + what, x.bar(0, b, what), bars[b][what]);
            }
        }
        C.due("bars of part 1", x.bar(1, 0, 0), BEYOND);
        C.due("bars of part 3", x.bar(3, 1, 0), BEYOND);
        C.due("room", x.bar(3, 0, 0), 12);
        int[][] traits = {{100, 3, 3, 6}, {60, 0, -1, 0}, {60, 0, -1, 0}, {60, 0, -1, 0}};
        for (int p = 0; p < 4; p++) {
            for (int what = 0; what < 4; what++) {
                C.due("trait " + what + " of " + p, x.set(p, what, traits[p][what]), traits[p][what]);
            }
        }
        int[] rules = {70, 2, 10, 4, 5};
        for (int what = 0; what < 5; what++) {
            C.due("rule " + what, x.rule(what, rules[what]), rules[what]);
        }
        C.due("breaks", x.count(1), 2);
        C.due("break 0", x.breakOf(0, 0), 3);
        C.due("break 0", x.breakOf(0, 2), 1);
        C.due("break 1", x.breakOf(1, 1), 3);
        C.due("spots", x.count(3), 1);
        C.due("spot 2", x.as(2, 4), 1);
        C.due("best", x.best(0, 3), 1);
    }

    private static void tear() {
        PageTurns x = Check.with("busy 1");
        C.due("nothing", x.tear(), 0);
        x.image();
        x.image();
        C.due("something", x.tear(), 1);
        C.due("nothing more", x.tear(), 0);
        C.due("undo", x.undo(), NONE);
        C.due("bars stay", x.count(0), 1);
        x.image();
        C.due("undo", x.undo(), 1);
    }

    private static void count() {
        PageTurns x = Check.with("busy 1 busy 2");
        Check.read(x, 2, "busy 3");
        Check.feed(x, "abc");
        x.lay(0, 0, 0);
        x.lay(0, 0, 1);
        x.hold(1, 1);
        C.due("bars", x.count(0), 3);
        C.due("breaks", x.count(1), 2);
        C.due("bytes", x.count(2), 3);
        C.due("spots", x.count(3), 1);
        for (int what : new int[] {-1, 4, Integer.MIN_VALUE, Integer.MAX_VALUE}) {
            C.due("count(" + what + ")", x.count(what), BEYOND);
        }
        C.due("status", x.status(0), 4);
    }

    private static void status() {
        PageTurns x = new PageTurns();
        for (int which = -1; which < 7; which++) {
            C.due("status(" + which + ")", x.status(which), 0);
        }
        C.due("status(7)", x.status(7), BEYOND);
        C.due("it is counted from then on", x.status(0), 1);
        C.due("in all", x.status(-1), 1);
        C.due("status(-2)", x.status(-2), BEYOND);
        C.due("status(far)", x.status(Integer.MIN_VALUE), BEYOND);
        C.due("three", x.status(0), 3);
        x.image();
        x.count(9);
        x.undo();
        C.due("undo takes none back", x.status(0), 4);
        C.due("a fault is no finding", Check.read(x, 0, "x"), -1);
        C.due("four", x.status(-1), 4);
    }

    private static void findingsOfEachKind() {
        PageTurns x = Check.with("8(5(busy 60))");
        x.set(9, 0, 0);
        Check.read(x, 0, "busy 1");
        x.line(0, 0, 1, 0);
        x.line(0, 0, 2, 0);
        x.best(1, 0);
        x.undo();
        x.stop(2, 0);
        x.lay(0, 0, 0);
        x.cut(0, 0, 1);
        x.as(0, 0);
        x.sheet(0, 8, -1);
        int[] want = {1, 1, 2, 3, 1, 1, 1};
        for (int f = 0; f < 7; f++) {
            C.due("status(" + f + ")", x.status(f), want[f]);
        }
        C.due("status(-1)", x.status(-1), 10);
    }
}
