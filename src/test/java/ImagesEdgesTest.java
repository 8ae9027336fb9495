import java.io.IOException;
import java.util.function.Supplier;

/** Promises 35 to 39: each sentence with its edges. */
public final class ImagesEdgesTest {
    private static final Edges E = new Edges("ImagesEdgesTest");
    private static final int MIN = Integer.MIN_VALUE;
    private static final int MAX = Integer.MAX_VALUE;
    private static final int BEYOND = Check.BEYOND;
    private static final int NONE = Check.NONE;

    public static void main(String[] args) throws IOException {
        image();
        undo();
        tear();
        count();
        status();
        E.finish("35", "36", "37", "38", "39");
    }

    /** Behind the image all but the tape and sheets is changed, and taken back. */
    private static final Supplier<PageTurns> TAKEN_BACK = () -> {
        PageTurns x = States.RICH.get();
        x.image();
        for (int p = 0; p < 4; p++) {
            x.set(p, 0, 200 + p);
            x.set(p, 1, 7);
            x.set(p, 2, (p + 2) % 4);
            x.set(p, 3, 513);
            x.clear(p);
            x.cut(p, 0, 2);
        }
        for (int what = 0; what < 5; what++) {
            x.rule(what, what == 1 ? 5 : 77 + what);
        }
        x.change(0, 0, 1, 2);
        x.change(0, 1, 3, 6);
        x.lay(2, 0, 0);
        x.hold(7, 0);
        x.rooms(0, 0);
        x.undo();
        return x;
    };

    /** What an object was behind the image, and was never changed. */
    private static final Supplier<PageTurns> AS_IT_WAS = () -> {
        PageTurns x = States.RICH.get();
        x.image();
        return x;
    };

    private static void image() {
        E.says("35", "All but THE TAPE and SHEETS is kept: 1.");
        E.due("of a new object", new PageTurns().image(), 1);
        E.due("of a full one", States.FULL.get().image(), 1);
        same(TAKEN_BACK, AS_IT_WAS);
        PageTurns x = States.RICH.get();
        x.image();
        x.wipe();
        x.feed(0x2020, 2);
        x.sheet(0, 32, 7);
        x.sheet(3, 8, 1);
        x.undo();
        E.due("the tape isn't", x.count(2), 2);
        E.due("a sheet isn't", x.write(0, 6, 1), 1);
        E.due("a sheet that was missing isn't", x.write(3, 0, 1), 1);
        // The other way: what was on the tape and on sheets does not come back.
        PageTurns y = States.RICH.get();
        y.wipe();
        y.sheet(0, 0, 0);
        y.undo();
        E.due("the tape stays empty", y.count(2), 0);
        E.due("the sheet stays missing", y.write(0, 0, 1), Check.MISSING);
        PageTurns full = States.FULL.get();
        full.image();
        full.clear(3);
        full.cut(3, 0, 40);
        E.due("a full one comes back", full.undo(), 160);
        E.due("its breaks", full.count(1), 30);
        E.due("its spots", full.count(3), 10);
        E.due("the last bar", full.bar(3, 39, 1), 2);
    }

    private static void same(Supplier<PageTurns> one, Supplier<PageTurns> other) {
        E.due("it is as it was", Witness.see(one).equals(Witness.see(other)) ? 1 : 0, 1);
    }

    private static void undo() {
        E.says("36", "It becomes what was kept latest (which stays):");
        PageTurns x = Check.with("busy 1");
        x.image();
        Check.read(x, 0, "busy 2");
        x.image();
        Check.read(x, 0, "busy 3");
        E.due("the latest of two", x.undo(), 2);
        Check.read(x, 0, "2(busy 4)");
        E.due("it stays", x.undo(), 2);
        E.due("it stays, unchanged", x.undo(), 2);
        E.due("bar 1", x.bar(0, 1, 0), 2);
        x.change(0, 1, 3, 7);
        x.undo();
        E.due("what is changed behind it is not in it", x.bar(0, 1, 3), 0);
        x.rule(0, 99);
        x.image();
        x.rule(0, 60);
        x.undo();
        E.due("an image of what came back", x.rule(0, 60), 99);

        PageTurns laid = Check.with("busy 60");
        laid.image();
        Check.read(laid, 0, "busy 60");
        E.due("a laying that was asked before", laid.best(0, 3), 2);
        laid.undo();
        E.due("is that of the bars that came back", laid.best(0, 3), 1);

        E.says("36", "how many BARS there are in all.");
        PageTurns y = new PageTurns();
        y.image();
        Check.read(y, 2, "9(busy 1)");
        E.due("none", y.undo(), 0);
        Check.read(y, 0, "3(busy 1)");
        Check.read(y, 3, "4(busy 1)");
        y.image();
        y.cut(3, 0, 4);
        E.due("3 and 4", y.undo(), 7);
        PageTurns full = States.FULL.get();
        E.due("160", full.undo(), 160);

        E.says("36", "NONE: nothing is kept.");
        E.refused(States.NEW, "undo()", NONE);
        Supplier<PageTurns> torn = () -> {
            PageTurns z = States.RICH.get();
            z.tear();
            return z;
        };
        E.refused(torn, "undo()", NONE);
    }

    private static void tear() {
        E.says("37", "Nothing is kept: 1 if something was, else 0.");
        PageTurns x = Check.with("busy 1");
        E.due("nothing was", x.tear(), 0);
        x.image();
        x.image();
        Check.read(x, 0, "busy 2");
        E.due("something was", x.tear(), 1);
        E.due("nothing is", x.tear(), 0);
        E.due("nothing comes back", x.undo(), NONE);
        E.due("what is stays", x.count(0), 2);
        x.image();
        x.cut(0, 0, 1);
        E.due("an image again", x.undo(), 2);
        E.due("something was, behind undo, too", x.tear(), 1);
        E.due("of a new object", new PageTurns().tear(), 0);
        E.due("an image of a new object is something", tearBehindImage(), 1);
        E.due("that is no finding", new PageTurns().status(-1), 0);
    }

    private static int tearBehindImage() {
        PageTurns x = new PageTurns();
        x.image();
        return x.tear();
    }

    private static void count() {
        E.says("38", "0 BARS in all, 1 BREAKS, 2 bytes of THE TAPE, 3 SPOTS that hold something.");
        int[] empty = {0, 0, 0, 0};
        int[] rich = {14, 4, 21, 3};
        int[] full = {160, 30, 120, 10};
        for (int what = 0; what < 4; what++) {
            E.due(new PageTurns(), "count(" + what + ")", empty[what]);
            E.due(States.RICH.get(), "count(" + what + ")", rich[what]);
            E.due(States.FULL.get(), "count(" + what + ")", full[what]);
        }
        E.keeps(States.RICH, "count(0)", "count(1)", "count(2)", "count(3)");

        E.says("38", "BEYOND: another what.");
        E.refused(States.RICH, "count(?)", BEYOND, -1, 4, MIN, MAX);
        E.refused(States.NEW, "count(?)", BEYOND, -1, 4);
    }

    private static void status() {
        E.says("39", "How many acts answered a finding ever (undo() takes none back):");
        PageTurns x = new PageTurns();
        E.due("none", x.status(-1), 0);
        x.image();
        for (int n = 1; n <= 300; n++) {
            x.count(-1);
        }
        E.due("300", x.status(-1), 300);
        x.undo();
        E.due("undo() takes none back", x.status(-1), 300);
        E.due("undo() takes none back", x.status(0), 300);
        x.tear();
        E.due("undo() itself", x.undo(), NONE);
        E.due("is counted", x.status(-1), 301);
        E.due("a fault", x.read(0), -1);
        E.due("isn't counted", x.status(-1), 301);

        for (String call : TermsEdgesTest.ONE_OF_EACH) {
            PageTurns w = States.RICH.get();
            w.count(4);
            w.sheet(0, 8, -1);
            w.as(1, 0);
            int answer = Calls.call(w, call);
            int more = answer < -1000000 ? 1 : 0;
            E.due("status(-1) behind " + call, w.status(-1), 3 + more);
            E.due("status(0) behind " + call, w.status(0), answer == BEYOND ? 2 : 1);
            E.due("status(5) behind " + call, w.status(5), answer == Check.MISSING ? 2 : 1);
            E.due("status(6) behind " + call, w.status(6), 1);
        }

        E.says("39", "which -1: all, 0 to 6: BEYOND to SIZE.");
        PageTurns y = Check.with("busy 40 busy 40 keep busy 40");
        y.lay(0, 0, 0);
        String[] calls = {"count(9)", "read(1)", "line(0, 0, 1, 0)", "stop(0, 9)", "cut(0, 0, 1)", "as(0, 0)",
            "sheet(0, 8, -1)"};
        int all = 0;
        for (int f = 0; f < 7; f++) {
            for (int n = 0; n <= f; n++) {
                if (f == 1) {
                    Check.feed(y, "9(9(busy 1))");
                }
                E.due(y, calls[f], -1000001 - f);
                all++;
            }
        }
        for (int f = 0; f < 7; f++) {
            E.due(y, "status(" + f + ")", f + 1);
        }
        E.due(y, "status(-1)", all);
        E.keeps(States.RICH, "status(-1)", "status(0)", "status(6)");

        E.says("39", "BEYOND (counted from then on): another one.");
        PageTurns z = new PageTurns();
        int told = 0;
        for (int which : new int[] {-2, 7, MIN, MAX}) {
            E.due(z, "status(" + which + ")", BEYOND);
            told++;
            E.due("it is counted", z.status(0), told);
            E.due("in all", z.status(-1), told);
        }
        E.refused(States.RICH, "status(?)", BEYOND, -2, 7, MIN, MAX);
        E.refused(States.NEW, "status(?)", BEYOND, -2, 7);
    }
}
