import java.io.IOException;
import java.util.function.Supplier;

/** The document's "Terms": findings, PARTS and FREE; each sentence with its edges. */
public final class TermsEdgesTest {
    private static final Edges E = new Edges("TermsEdgesTest");
    private static final int MIN = Integer.MIN_VALUE;
    private static final int MAX = Integer.MAX_VALUE;
    private static final int BEYOND = Check.BEYOND;

    /** One call of each act that may stand where there are bars, breaks, sheets and an image. */
    static final String[] ONE_OF_EACH = {"set(0, 0, 60)", "rule(0, 60)", "feed(97, 1)", "wipe()", "read(2)",
        "bar(0, 0, 0)", "change(0, 0, 1, 1)", "cut(0, 0, 1)", "free(0, 0, 0)", "room(0, 0, 0)", "line(0, 2, 2, 0)",
        "page(0, 2, 2, 0)", "best(0, 0)", "laid(0, 0, 0)", "ends(0, 0)", "stop(1, 0)", "hearts(0)", "folds(0)",
        "needs(0)", "together(0, 1)", "all(0)", "lay(0, 0, 0)", "breakOf(0, 0)", "clear(0)", "price(0)", "judge(0)",
        "hold(0, 0)", "as(0, 0)", "sheet(0, 8, 3)", "write(0, 0, 1)", "copy(0, 0, 0, 1, 1)", "rooms(0, 0)",
        "pages(0, 0)", "image()", "undo()", "tear()", "count(0)", "status(0)"};

    public static void main(String[] args) throws IOException {
        calls();
        findings();
        order();
        nothingChanges();
        quotients();
        sets();
        parts();
        traits();
        bars();
        free();
        freeByHalves();
        byHeart();
        E.finish("T0", "T1");
    }

    private static void calls() {
        E.says("W", "An object is used for at most 512 calls after it has been made");
        PageTurns x = new PageTurns();
        for (int call = 1; call < 512; call++) {
            x.count(4);
        }
        E.due("the 512th call: status(-1)", x.status(-1), 511);
        PageTurns y = new PageTurns();
        for (int call = 1; call < 511; call++) {
            y.image();
        }
        y.rule(0, 20);
        E.due("the 512th call: rule(0, 200)", y.rule(0, 200), 20);
    }

    private static void findings() {
        E.says("T0", "FINDINGS are answers below -1000000: LOW is -1000001; LOW BEYOND, LOW - 1 FULL, LOW - 2 KIND, "
                + "LOW - 3 NONE, LOW - 4 STATE, LOW - 5 MISSING, LOW - 6 SIZE.");
        PageTurns x = Check.with("busy 30 keep busy 31");
        E.due(x, "count(4)", -1000001);
        E.due("read of 81 bars", Check.read(x, 1, "9(9(busy 1))"), -1000002);
        E.due(x, "line(0, 0, 1, 0)", -1000003);
        E.due(x, "undo()", -1000004);
        E.due(x, "line(0, 0, 0, 0)", -1000005);
        E.due(x, "as(0, 0)", -1000006);
        E.due(x, "sheet(0, 8, -1)", -1000007);
        for (int which = 0; which < 7; which++) {
            E.due(x, "status(" + which + ")", 1);
        }
        E.due(x, "status(-1)", 7);
        // The lowest answer that is none: behind 120 blanks the text ends too early.
        E.due("read of 120 blanks", Check.read(x, 1, " ".repeat(120)), -121);
        E.due(x, "status(-1)", 7);
    }

    private static void order() {
        E.says("T0", "Each act tells its findings in the order in which they are asked (that of its words);");
        PageTurns x = States.FULL.get();
        E.due("feed: BEYOND, FULL", x.feed(32, 5), BEYOND);
        E.due("lay: BEYOND, FULL", x.lay(7, 0, 0), BEYOND);
        E.due("lay: BEYOND, FULL", x.lay(0, 4, 0), BEYOND);
        E.due("lay: BEYOND, FULL", x.lay(0, 0, 40), BEYOND);
        E.due("cut: BEYOND, STATE", x.cut(0, 0, 41), BEYOND);
        E.due("read: BEYOND, FULL", x.read(4), BEYOND);
        x.wipe();
        E.due("read: a fault, FULL", Check.read(x, 0, "9(9(busy 1)) loud"), -14);
        PageTurns y = Check.with("busy 40 busy 40 keep busy 40");
        y.sheet(0, 8, 1);
        y.sheet(1, 16, 1);
        y.lay(0, 0, 0);
        y.hold(0, 0);
        E.due("line: BEYOND, KIND", y.line(0, 0, 2, 3), BEYOND);
        E.due("line: KIND, STATE", y.line(0, 0, 1, 0), Check.KIND);
        E.due("page: BEYOND, NONE", y.page(0, 0, 1, 3), BEYOND);
        E.due("best: BEYOND, NONE", y.best(1, 5), BEYOND);
        E.due("laid: BEYOND, NONE", y.laid(1, -1, 0), BEYOND);
        E.due("laid: BEYOND, NONE", y.laid(1, 0, 6), BEYOND);
        E.due("ends: BEYOND, NONE", y.ends(1, -1), BEYOND);
        E.due("stop: BEYOND, NONE", y.stop(1, -1), BEYOND);
        E.due("together: BEYOND, NONE", y.together(1, 1), BEYOND);
        E.due("as: BEYOND, MISSING", y.as(1, 7), BEYOND);
        E.due("as: BEYOND, KIND", y.as(0, 7), BEYOND);
        E.due("sheet: BEYOND, SIZE", y.sheet(4, 8, -1), BEYOND);
        E.due("sheet: BEYOND, SIZE", y.sheet(0, 9, -1), BEYOND);
        E.due("write: BEYOND, MISSING", y.write(4, 0, 0), BEYOND);
        E.due("write: MISSING, BEYOND", y.write(2, -1, 0), Check.MISSING);
        E.due("copy: BEYOND, MISSING", y.copy(2, 0, 4, 0, 1), BEYOND);
        E.due("copy: BEYOND, MISSING", y.copy(-1, 0, 2, 0, 1), BEYOND);
        E.due("copy: MISSING, KIND", y.copy(0, 0, 2, 0, 1), Check.MISSING);
        E.due("copy: MISSING, KIND", y.copy(2, 0, 1, 0, 1), Check.MISSING);
        E.due("copy: KIND, BEYOND", y.copy(0, -1, 1, 0, 9), Check.KIND);
        E.due("rooms: BEYOND, MISSING", y.rooms(4, 0), BEYOND);
        E.due("rooms: MISSING, BEYOND", y.rooms(2, 4), Check.MISSING);
        E.due("pages: BEYOND, MISSING", y.pages(-1, 1), BEYOND);
        E.due("pages: MISSING, BEYOND", y.pages(2, 4), Check.MISSING);
        E.due("pages: MISSING, NONE", y.pages(2, 1), Check.MISSING);
        E.due("pages: BEYOND, NONE", y.pages(0, -1), BEYOND);
    }

    private static void refusedOrNot(Supplier<PageTurns> state, String call) {
        int answer = Calls.call(state.get(), call);
        if (answer < -1000000 && !(call.startsWith("read") && answer == Check.FULL)) {
            E.refused(state, call, answer);
        }
    }

    private static void nothingChanges() {
        E.says("T0", "one that answers a finding changes nothing but status().");
        for (String call : ONE_OF_EACH) {
            refusedOrNot(States.NEW, call);
            refusedOrNot(States.FULL, call);
            int numbers = call.indexOf("()") >= 0 ? 0 : call.split(",").length;
            for (int i = 0; i < numbers; i++) {
                refusedOrNot(States.RICH, withNumber(call, i, "MIN"));
                refusedOrNot(States.RICH, withNumber(call, i, "MAX"));
            }
        }
    }

    private static String withNumber(String call, int i, String number) {
        String[] numbers = call.substring(call.indexOf('(') + 1, call.length() - 1).split(", ");
        numbers[i] = number;
        return call.substring(0, call.indexOf('(') + 1) + String.join(", ", numbers) + ")";
    }

    private static void quotients() {
        E.says("T0", "Quotients are cut.");
        PageTurns x = Check.with("free 53 beats 1 half 1 beats 11 busy 1");
        x.set(0, 0, 61);
        E.due("6 beats of 6000 by 61", x.free(0, 0, 0), 590);
        E.due("half of 11 beats, by 61", x.free(0, 1, 0), 491);
        E.due("7 times 7 by 10", x.line(0, 0, 0, 0), 4);
        x.change(0, 1, 1, 0);
        x.lay(3, 0, 0);
        x.lay(5, 0, 0);
        E.due("98 free: 202 by 10", x.breakOf(0, 4), 11 + 20);
        E.due("31 by 2", x.breakOf(1, 4), 15);
    }

    private static void sets() {
        E.says("T0", "Sets are told as bits.");
        PageTurns x = Check.with("busy 60 keep wish busy 60 letter wish busy 60 keep letter busy 60");
        E.due("keep, wish", x.bar(0, 0, 3), 5);
        E.due("letter, wish", x.bar(0, 1, 3), 6);
        E.due("keep, letter", x.bar(0, 2, 3), 3);
        PageTurns y = Check.with("4(busy 60)");
        y.rule(1, 1);
        E.due("pages 0 and 2", y.folds(0), 5);
        y.set(0, 3, 4);
        E.due("page 0 isn't told", y.laid(0, 0, 5), 2);
        E.due("page 2 is", y.laid(0, 2, 5), 0);
    }

    private static void parts() {
        E.says("T1", "PARTS are 0 to 3, each with");
        PageTurns x = new PageTurns();
        for (int p = 0; p < 4; p++) {
            E.due("read(" + p + ")", Check.read(x, p, "9(busy " + (p + 1) + ")"), 9);
        }
        for (int p = 0; p < 4; p++) {
            E.due(x, "bar(" + p + ", 8, 0)", p + 1);
            E.due(x, "set(" + p + ", 0, " + (100 + p) + ")", 60);
        }
        for (int p = 0; p < 4; p++) {
            E.due(x, "set(" + p + ", 0, 60)", 100 + p);
        }
        E.refused(States.RICH, "set(?, 0, 60)", BEYOND, Edges.NO_PART);
        E.refused(States.RICH, "read(?)", BEYOND, Edges.NO_PART);
        E.refused(States.RICH, "bar(?, 0, 0)", BEYOND, Edges.NO_PART);
    }

    /** The last values that are allowed and the first that aren't, at both ends. */
    private static void traitIs(int what, int first, int least, int most) {
        for (int p = 0; p < 4; p++) {
            PageTurns x = new PageTurns();
            int end = what == 2 && p == 3 ? 2 : most;
            E.due("at first", x.set(p, what, least), first);
            E.due("the least", x.set(p, what, end), least);
            E.due("the greatest", x.set(p, what, least), end);
            for (int other = 0; other < 4; other++) {
                E.due("another's is as it was", other == p ? first : x.set(other, what, first), first);
            }
        }
        E.refused(States.RICH, "set(0, " + what + ", ?)", BEYOND, least - 1, most + 1, MIN, MAX);
        E.refused(States.NEW, "set(3, " + what + ", ?)", BEYOND, least - 1, most + 1, MIN, MAX);
    }

    private static void traits() {
        E.says("T1", "a SPEED (30 to 240; 60 at first),");
        traitIs(0, 60, 30, 240);
        PageTurns x = Check.with("free 1 beats 1");
        E.due("60 at first", x.free(0, 0, 0), 100);
        x.set(0, 0, 30);
        E.due("30", x.free(0, 0, 0), 200);
        x.set(0, 0, 240);
        E.due("240", x.free(0, 0, 0), 25);
        E.says("T1", "HEARTS (0 to 8; 0 at first),");
        traitIs(1, 0, 0, 8);
        PageTurns y = Check.with("9(busy 1 beats 1)busy 1 beats 1");
        E.due("0 at first", y.free(0, 0, 1), 0);
        y.set(0, 1, 8);
        E.due("8 of 9", y.free(0, 0, 1), 800);
        E.says("T1", "a NEIGHBOUR (another PART, or none: -1, at first),");
        traitIs(2, -1, -1, 3);
        for (int p = 0; p < 4; p++) {
            E.refused(States.RICH, "set(" + p + ", 2, " + p + ")", BEYOND);
            PageTurns z = new PageTurns();
            int was = -1;
            for (int other = 0; other < 4; other++) {
                if (other != p) {
                    E.due("set(" + p + ", 2, " + other + ")", z.set(p, 2, other), was);
                    was = other;
                }
            }
        }
        E.says("T1", "FOLDS (a set of 0 to 9; none at first),");
        traitIs(3, 0, 0, 1023);
        PageTurns w = new PageTurns();
        int was = 0;
        for (int page = 0; page <= 9; page++) {
            E.due("page " + page, w.set(0, 3, 1 << page), was);
            was = 1 << page;
        }
        for (int page = 10; page < 32; page++) {
            E.due("page " + page, w.set(0, 3, 1 << page), BEYOND);
        }
        E.due("as it was", w.set(0, 3, 0), 512);
    }

    private static void bars() {
        E.says("T1", "and BARS 0, 1, .. (at most 40; none at first).");
        PageTurns x = new PageTurns();
        for (int p = 0; p < 4; p++) {
            E.due("none at first", x.bar(p, 0, 0), BEYOND);
            E.due("39", Check.read(x, p, "6(6(busy 1))3(busy 2)"), 39);
            E.due("40", Check.read(x, p, "busy 3"), 40);
            E.due("41", Check.read(x, p, "busy 4"), Check.FULL);
            E.due("the first", x.bar(p, 0, 0), 1);
            E.due("the last", x.bar(p, 39, 0), 3);
            E.due("none behind it", x.bar(p, 40, 0), BEYOND);
        }
        E.due("all", x.count(0), 160);
        E.says("T1", "A BAR has ROOM (1 to 60),");
        PageTurns y = Check.with("busy 1 busy 60");
        E.due("the least", y.bar(0, 0, 0), 1);
        E.due("the greatest", y.bar(0, 1, 0), 60);
        E.due("too small", Check.read(y, 0, "busy 0"), -6);
        E.due("too great", Check.read(y, 0, "busy 61"), -6);
        E.says("T1", "a HAND (0 busy, 1 half, 2 free),");
        PageTurns z = Check.with("busy 1 half 1 free 1");
        for (int hand = 0; hand < 3; hand++) {
            E.due("as read", z.bar(0, hand, 1), hand);
            E.due("as it was", z.change(0, hand, 1, 2 - hand), hand);
            E.due("as changed", z.bar(0, hand, 1), 2 - hand);
        }
        E.refused(States.RICH, "change(0, 0, 1, ?)", BEYOND, -1, 3, MIN, MAX);
        E.says("T1", "BEATS (1 to 12),");
        PageTurns w = Check.with("free 1 beats 1 busy 1 free 1 beats 12");
        E.due("the least", w.bar(0, 0, 2), 1);
        E.due("the greatest", w.bar(0, 2, 2), 12);
        E.due("too few", Check.read(w, 0, "busy 1 beats 0"), -14);
        E.due("too many", Check.read(w, 0, "busy 1 beats 13"), -14);
        E.says("T1", "MARKS (1 KEEP, 2 LETTER, 4 WISH).");
        PageTurns v = Check.with("busy 1 keep busy 1 letter busy 1 wish busy 1 busy 1 wish letter keep");
        int[] marks = {1, 2, 4, 0, 7};
        for (int b = 0; b < 5; b++) {
            E.due("marks of bar " + b, v.bar(0, b, 3), marks[b]);
        }
        E.refused(States.RICH, "change(0, 0, 3, ?)", BEYOND, -1, 8, MIN, MAX);
    }

    private static void free() {
        E.says("T1", "FREE behind a BAR of a PART: the BEATS for which a hand is free, times 6000 by SPEED "
                + "(cut once, at the end):");
        PageTurns x = Check.with("free 1 beats 1 free 1 beats 1 busy 1 busy 1");
        x.set(0, 0, 70);
        E.due("171, not 85 and 85", x.free(0, 0, 0), 171);
        E.due("none are free", x.free(0, 3, 0), 0);
        PageTurns full = Check.with("8(5(free 1 beats 12))");
        full.set(0, 0, 30);
        E.due("all of 40, from the first", full.free(0, 0, 0), 96000);
        E.due("all of 40, from the last", full.free(0, 39, 0), 96000);
        full.set(0, 0, 240);
        E.due("at 240", full.free(0, 20, 0), 12000);
        full.set(0, 0, 239);
        E.due("at 239", full.free(0, 20, 0), 12050);

        E.says("T1", "from that BAR back each free one with all its BEATS, as far as they are free without a gap,");
        PageTurns y = Check.with("free 1 beats 5 free 1 beats 6 busy 1 free 1 beats 2 free 1 beats 3 busy 1 busy 1");
        E.due("up to the gap", y.free(0, 4, 0), 500);
        E.due("that bar isn't free", y.free(0, 5, 0), 0);
        E.due("up to the first bar", y.free(0, 1, 0), 1100);
        PageTurns one = Check.with("free 1 beats 7");
        E.due("one bar alone", one.free(0, 0, 0), 700);
    }

    private static void freeByHalves() {
        E.says("T1", "and if the one ahead of these (that BAR itself, if it isn't free) is half, "
                + "half of its BEATS (cut) more;");
        PageTurns x = Check.with("half 1 beats 7 free 1 beats 2 busy 1 free 1 beats 9 half 1 beats 6 busy 1");
        E.due("half of 7 ahead of 2", x.free(0, 1, 0), 500);
        E.due("that bar itself, and none ahead of it", x.free(0, 4, 0), 300);
        E.due("a busy one ends it", x.free(0, 2, 0), 900 + 300);
        PageTurns y = Check.with("half 1 beats 8 half 1 beats 12 busy 1 half 1 beats 1 busy 1");
        E.due("one half alone", y.free(0, 1, 0), 600);
        E.due("half of 1 is 0", y.free(0, 3, 0), 0);
        E.due("the first bar of all, half", Check.with("half 1 beats 3").free(0, 0, 0), 100);
        // Each half is cut for itself: of 3 and of 5 that is 1 and 2.
        E.due("half of 3 and half of 5", Check.with("half 1 beats 3 half 1 beats 5").free(0, 0, 0), 300);

        E.says("T1", "from the next BAR on likewise.");
        PageTurns z = Check.with("busy 1 free 1 beats 2 free 1 beats 3 half 1 beats 5 free 1 beats 9 busy 1 free 1 beats 12");
        E.due("2, 3 and half of 5", z.free(0, 0, 0), 700);
        E.due("half of the next one alone", z.free(0, 2, 0), 300 + 200 + 200);
        E.due("up to a busy one", z.free(0, 3, 0), 200 + 900);
        E.due("up to the last", z.free(0, 5, 0), 1200);
        E.due("behind the last is none", z.free(0, 6, 0), 1200);
        E.due("a busy one next", z.free(0, 4, 0), 900 + 200);
    }

    private static void byHeart() {
        E.says("T1", "BY HEART: likewise, but the next HEARTS BARS (as many as there are) are taken for free ones "
                + "(and it goes on behind them).");
        PageTurns x = Check.with("half 1 beats 2 busy 1 beats 3 half 1 beats 5 free 1 beats 7 half 1 beats 11 busy 1 beats 9");
        int[] beats = {1, 1 + 3 + 2, 1 + 3 + 5 + 7 + 5, 1 + 3 + 5 + 7 + 5, 1 + 3 + 5 + 7 + 11, 1 + 3 + 5 + 7 + 11 + 9};
        for (int h = 0; h < 6; h++) {
            x.set(0, 1, h);
            E.due("free(0, 0, 1) with " + h, x.free(0, 0, 1), beats[h] * 100);
        }
        for (int h = 6; h <= 8; h++) {
            x.set(0, 1, h);
            E.due("as many as there are: " + h, x.free(0, 0, 1), beats[5] * 100);
            E.due("one is", x.free(0, 4, 1), (5 + 9) * 100);
            E.due("none is", x.free(0, 5, 1), 0);
        }
        E.due("not those ahead", x.free(0, 1, 1), (5 + 7 + 11 + 9) * 100);
        E.due("none without BY HEART", x.free(0, 0, 0), 100);
        PageTurns full = Check.with("8(5(busy 1 beats 1))");
        full.set(0, 1, 8);
        E.due("8 of 39", full.free(0, 0, 1), 800);
        E.due("8 of 8", full.free(0, 31, 1), 800);
        E.due("7 of 7", full.free(0, 32, 1), 700);
        E.due("0 of 0", full.free(0, 39, 1), 0);
    }
}
