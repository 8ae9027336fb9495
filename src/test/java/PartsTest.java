/** Promises 1 to 11: parts, texts, bars, what is free, room. */
public final class PartsTest {
    private static final Check C = new Check("PartsTest");
    private static final int BEYOND = Check.BEYOND;
    private static final int FULL = Check.FULL;
    private static final int STATE = Check.STATE;
    private static final int[] WRONG_PARTS = {-1, 4, Integer.MIN_VALUE, Integer.MAX_VALUE};

    public static void main(String[] args) {
        newObject();
        set();
        rule();
        feedAndWipe();
        readGoodTexts();
        readFaults();
        readFull();
        bar();
        change();
        cut();
        free();
        freeByHeart();
        room();
        C.finish();
    }

    private static void newObject() {
        PageTurns x = new PageTurns();
        for (int what = 0; what < 4; what++) {
            C.due("count(" + what + ") at first", x.count(what), 0);
        }
        for (int p = 0; p < 4; p++) {
            C.due("speed at first", x.set(p, 0, 60), 60);
            C.due("hearts at first", x.set(p, 1, 0), 0);
            C.due("neighbour at first", x.set(p, 2, -1), -1);
            C.due("folds at first", x.set(p, 3, 0), 0);
            C.due("no bar at first", x.bar(p, 0, 0), BEYOND);
            C.due("sheet is missing at first", x.write(p, 0, 1), Check.MISSING);
        }
        C.due("status(-1)", x.status(-1), 8);
        int[] rules = {60, 3, 150, 0, 50};
        for (int what = 0; what < 5; what++) {
            C.due("rule at first", x.rule(what, rules[what]), rules[what]);
        }
        C.due("wipe at first", x.wipe(), 0);
        C.due("undo at first", x.undo(), Check.NONE);
        C.due("tear at first", x.tear(), 0);
        for (int s = 0; s < 10; s++) {
            C.due("spot at first", x.as(s, 0), Check.MISSING);
        }
        C.due("status of a new object", new PageTurns().status(-1), 0);
    }

    private static void set() {
        PageTurns x = new PageTurns();
        int[][] edges = {{30, 240}, {0, 8}, {-1, 3}, {0, 1023}};
        for (int what = 0; what < 4; what++) {
            int least = edges[what][0];
            int most = edges[what][1];
            C.due("set too low", x.set(0, what, least - 1), BEYOND);
            C.due("set too high", x.set(0, what, most + 1), BEYOND);
            x.set(0, what, least);
            C.due("set least was taken", x.set(0, what, most), least);
            C.due("set most was taken", x.set(0, what, most), most);
            C.due("another part has its own", x.set(1, what, what == 2 ? 0 : most),
                    new int[] {60, 0, -1, 0}[what]);
        }
        for (int p = 0; p < 4; p++) {
            C.due("its own neighbour", x.set(p, 2, p), BEYOND);
            C.due("another as neighbour", x.set(p, 2, (p + 1) % 4) >= -1 ? 1 : 0, 1);
            C.due("it was taken", x.set(p, 2, -1), (p + 1) % 4);
        }
        C.due("set what -1", x.set(0, -1, 60), BEYOND);
        C.due("set what 4", x.set(0, 4, 0), BEYOND);
        C.due("set what greatest", x.set(0, Integer.MAX_VALUE, 0), BEYOND);
        for (int p : WRONG_PARTS) {
            C.due("set part " + p, x.set(p, 0, 60), BEYOND);
        }
        C.due("a finding changes nothing", x.set(0, 0, 60), 240);
    }

    private static void rule() {
        PageTurns x = new PageTurns();
        int[][] edges = {{20, 200}, {1, 6}, {0, 999}, {0, 99}, {0, 999}};
        for (int what = 0; what < 5; what++) {
            int least = edges[what][0];
            int most = edges[what][1];
            C.due("rule too low", x.rule(what, least - 1), BEYOND);
            C.due("rule too high", x.rule(what, most + 1), BEYOND);
            x.rule(what, least);
            C.due("rule least was taken", x.rule(what, most), least);
            C.due("rule most was taken", x.rule(what, least), most);
        }
        C.due("rule -1", x.rule(-1, 60), BEYOND);
        C.due("rule 5", x.rule(5, 1), BEYOND);
    }

    private static void feedAndWipe() {
        PageTurns x = new PageTurns();
        C.due("feed n 0", x.feed(97, 0), BEYOND);
        C.due("feed n 5", x.feed(97, 5), BEYOND);
        C.due("feed n -1", x.feed(97, -1), BEYOND);
        C.due("feed 4", x.feed(0x62757379, 4), 4);
        C.due("feed 2: only its lowest bytes", x.feed(0x7a7a2031, 2), 6);
        C.due("feed 1: a blank", x.feed(' ', 1), 7);
        C.due("count(2)", x.count(2), 7);
        C.due("read: busy 1", x.read(0), 1);
        C.due("room", x.bar(0, 0, 0), 1);
        C.due("feed 3", x.feed(0x667265, 3), 3);
        C.due("feed 3 more", x.feed(0x652039, 3), 6);
        C.due("read: free 9", x.read(0), 2);
        C.due("hand", x.bar(0, 1, 1), 2);
        for (int i = 1; i <= 29; i++) {
            C.due("feed", x.feed(0x20202020, 4), 4 * i);
        }
        C.due("feed to 119", x.feed(0x202020, 3), 119);
        C.due("feed past 120", x.feed(0x2020, 2), FULL);
        C.due("n goes first", x.feed(0x2020, 5), BEYOND);
        C.due("nothing came", x.count(2), 119);
        C.due("feed the last", x.feed(0x20, 1), 120);
        C.due("feed one more", x.feed(0x20, 1), FULL);
        C.due("wipe", x.wipe(), 120);
        C.due("wipe again", x.wipe(), 0);
        C.due("feed after wipe", x.feed(0x20, 1), 1);
    }

    private static void good(String text, int bars) {
        PageTurns x = new PageTurns();
        C.due("read of '" + text + "'", Check.read(x, 2, text), bars);
        C.due("tape after '" + text + "'", x.count(2), 0);
        C.due("bars after '" + text + "'", x.count(0), bars);
    }

    private static void readGoodTexts() {
        good("busy 1", 1);
        good("busy1", 1);
        good("  half  60  ", 1);
        good("free0007", 1);
        good("free 00000000000000000000000000007", 1);
        good("busy 5beats12keep", 1);
        good("busy 5 keep keep letter wish keep", 1);
        good("busy 5 busy 6half 7", 3);
        good("9(busy 1)", 9);
        good("2(busy 1 3(free 2)half 3)", 10);
        good("busy 5 3(free 1)", 4);
        good("1(1(1(1(busy 9))))", 1);
        good("2(2(2(2(busy 9)busy 9)busy 9)busy 9)", 30);
        good("1(busy 1)1(busy 2)", 2);
        good("8(5(busy 1))", 40);
        good("busy1".repeat(24), 24);
        good(" ".repeat(114) + "busy 1", 1);
        good("busy 1 keep" + " keep".repeat(21), 1);
        // What was on the tape before is gone, behind the end, too.
        PageTurns old = new PageTurns();
        Check.feed(old, "busy 5 keepkeep busy 99");
        old.wipe();
        C.due("a word at the end", Check.read(old, 0, "busy 5 keep"), 1);
        Check.feed(old, "busy 55 keep");
        old.wipe();
        C.due("a number at the end", Check.read(old, 0, "busy 5"), 2);
        C.due("its room", old.bar(0, 1, 0), 5);
        PageTurns x = new PageTurns();
        C.due("read", Check.read(x, 1, "2(half 17 beats 11 letter free 3 wish keep)"), 4);
        int[][] want = {{17, 1, 11, 2}, {3, 2, 4, 5}, {17, 1, 11, 2}, {3, 2, 4, 5}};
        for (int b = 0; b < 4; b++) {
            for (int what = 0; what < 4; what++) {
                C.due("bar(1, " + b + ", " + what + ")", x.bar(1, b, what), want[b][what]);
            }
        }
        C.due("they come behind", Check.read(x, 1, "busy 9"), 5);
        C.due("the new one", x.bar(1, 4, 0), 9);
        C.due("the old one", x.bar(1, 3, 0), 3);
        C.due("another part has none", x.bar(0, 0, 0), BEYOND);
    }

    private static void fault(String text, int place) {
        PageTurns x = Check.with("busy 1");
        C.due("read of '" + text + "'", Check.read(x, 0, text), -1 - place);
        C.due("tape after '" + text + "'", x.count(2), 0);
        C.due("bars after '" + text + "'", x.count(0), 1);
        C.due("no finding for '" + text + "'", x.status(-1), 0);
    }

    private static void readFaults() {
        fault("", 0);
        fault("   ", 3);
        fault("busy", 4);
        fault("busy ", 5);
        fault("busy 0", 5);
        fault("busy 61", 5);
        fault("busy 99999999999999999999", 5);
        fault("busy 4294967297", 5);
        fault("busy busy", 5);
        fault("busy 5 beats", 12);
        fault("busy 5 beats 0", 13);
        fault("busy 5 beats 13", 13);
        fault("busy 5 beats keep", 13);
        fault("busy 5 keep beats 3", 12);
        fault("busy 5 beats 3 beats 3", 15);
        fault("busykeep 5", 0);
        fault("busy 5 keepwish", 7);
        fault("busy 5 half", 11);
        fault("keep", 0);
        fault("beats 3", 0);
        fault("  loud 3", 2);
        fault("Busy 3", 0);
        fault("bus 3", 0);
        fault("busyy 3", 0);
        fault("busy 5 3", 8);
        fault("busy 5 10(busy 1)", 7);
        fault("0(busy 1)", 0);
        fault("2", 1);
        fault("2 busy 1", 2);
        fault("2(", 2);
        fault("2(busy 1", 8);
        fault("2(busy 1  ", 10);
        fault("2()", 2);
        fault("2(busy 1))", 9);
        fault("busy 1)", 6);
        fault(")", 0);
        fault("(busy 1)", 0);
        fault("2((busy 1))", 2);
        fault("2(2(busy 1)", 11);
        fault("1(1(1(1(1(busy 9)))))", 9);
        fault("1(1(1(1(busy 9 2 (busy 1)))))", 17);
        fault("busy 1,", 6);
        fault("busy\t1", 4);
        fault("busy -1", 5);
        fault("busy 1 " + (char) 0, 7);
        fault("busy 1 " + (char) 225 + "busy 2", 7);
        fault("busy 1 {", 7);
        fault("busy 1 `", 7);
        fault("9(9(busy 1)) soft", 13);
        fault("busyz 3", 0);
        fault("busya 3", 0);
        fault("busy 1(", 6);
        fault("2)busy 1)", 1);
        fault("2(busy 1-", 8);
        fault("2 3 busy 1", 2);
        fault(")".repeat(120), 0);
        fault("busy 1" + ")".repeat(114), 6);
        fault(" ".repeat(120), 120);
        fault("busy 1" + " ".repeat(113) + "2", 120);
        fault("z".repeat(120), 0);
        fault("9".repeat(120), 0);
    }

    private static void readFull() {
        PageTurns x = new PageTurns();
        C.due("81 bars", Check.read(x, 0, "9(9(busy 1))"), FULL);
        C.due("the tape is empty then", x.count(2), 0);
        C.due("41 bars", Check.read(x, 0, "8(5(busy 1))busy 1"), FULL);
        C.due("6561 bars", Check.read(x, 0, "9(9(9(9(busy 1))))"), FULL);
        C.due("41 of 9 and 32", Check.read(x, 0, "9(busy 1)8(4(busy 1))"), FULL);
        C.due("39 bars", Check.read(x, 0, "8(4(busy 1))7(busy 2)"), 39);
        C.due("2 more", Check.read(x, 0, "2(busy 1)"), FULL);
        C.due("1 more", Check.read(x, 0, "busy 3"), 40);
        C.due("1 more", Check.read(x, 0, "busy 1"), FULL);
        C.due("another part", Check.read(x, 1, "busy 1"), 1);
        C.due("a fault goes ahead of FULL", Check.read(x, 0, "busy 1 busy"), -12);
        C.due("status of FULL", x.status(1), 6);
        for (int p : WRONG_PARTS) {
            Check.feed(x, "busy 1");
            C.due("read(" + p + ")", x.read(p), BEYOND);
            C.due("the tape stays", x.wipe(), 6);
        }
    }

    private static void bar() {
        PageTurns x = Check.with("half 17 beats 11 letter");
        for (int p : WRONG_PARTS) {
            C.due("bar part", x.bar(p, 0, 0), BEYOND);
        }
        C.due("bar -1", x.bar(0, -1, 0), BEYOND);
        C.due("bar 1", x.bar(0, 1, 0), BEYOND);
        C.due("bar least", x.bar(0, Integer.MIN_VALUE, 0), BEYOND);
        C.due("what -1", x.bar(0, 0, -1), BEYOND);
        C.due("what 4", x.bar(0, 0, 4), BEYOND);
        C.due("status", x.status(0), 9);
    }

    private static void change() {
        PageTurns x = Check.with("busy 17 beats 11 keep free 3");
        C.due("hand", x.change(0, 0, 1, 2), 0);
        C.due("hand again", x.change(0, 0, 1, 1), 2);
        C.due("hand is", x.bar(0, 0, 1), 1);
        C.due("hand 0", x.change(0, 0, 1, 0), 1);
        C.due("hand is 0", x.change(0, 0, 1, 1), 0);
        C.due("marks", x.change(0, 0, 3, 7), 1);
        C.due("marks again", x.change(0, 0, 3, 0), 7);
        C.due("marks are", x.bar(0, 0, 3), 0);
        C.due("the other bar", x.bar(0, 1, 1), 2);
        C.due("hand 3", x.change(0, 0, 1, 3), BEYOND);
        C.due("hand -1", x.change(0, 0, 1, -1), BEYOND);
        C.due("marks 8", x.change(0, 0, 3, 8), BEYOND);
        C.due("marks -1", x.change(0, 0, 3, -1), BEYOND);
        C.due("room", x.change(0, 0, 0, 5), BEYOND);
        C.due("beats", x.change(0, 0, 2, 5), BEYOND);
        C.due("what 4", x.change(0, 0, 4, 0), BEYOND);
        C.due("what -1", x.change(0, 0, -1, 0), BEYOND);
        C.due("bar 2", x.change(0, 2, 1, 0), BEYOND);
        C.due("part 1 has none", x.change(1, 0, 1, 0), BEYOND);
        C.due("part 4", x.change(4, 0, 1, 0), BEYOND);
        C.due("nothing changed", x.bar(0, 0, 1), 1);
    }

    private static void cut() {
        PageTurns x = Check.with("busy 1 busy 2 busy 3 busy 4 busy 5");
        C.due("cut n 0", x.cut(0, 0, 0), BEYOND);
        C.due("cut n -1", x.cut(0, 0, -1), BEYOND);
        C.due("cut more than there are", x.cut(0, 3, 3), BEYOND);
        C.due("cut far more", x.cut(0, 3, Integer.MAX_VALUE), BEYOND);
        C.due("cut bar 5", x.cut(0, 5, 1), BEYOND);
        C.due("cut bar -1", x.cut(0, -1, 1), BEYOND);
        C.due("cut part 4", x.cut(4, 0, 1), BEYOND);
        C.due("cut two", x.cut(0, 1, 2), 3);
        C.due("bar 0", x.bar(0, 0, 0), 1);
        C.due("bar 1", x.bar(0, 1, 0), 4);
        C.due("bar 2", x.bar(0, 2, 0), 5);
        C.due("bar 3", x.bar(0, 3, 0), BEYOND);
        C.due("read(1)", Check.read(x, 1, "busy 9"), 1);
        C.due("a break of part 0", x.lay(0, 0, 2), 0);
        C.due("cut", x.cut(0, 0, 1), STATE);
        C.due("BEYOND goes first", x.cut(0, 0, 4), BEYOND);
        C.due("cut of another part", x.cut(1, 0, 1), 0);
        C.due("clear", x.clear(0), 1);
        C.due("cut all", x.cut(0, 0, 3), 0);
        C.due("cut of nothing", x.cut(0, 0, 1), BEYOND);
        PageTurns y = Check.with("busy 1 busy 2 busy 3 7(busy 4)6(5(busy 5))");
        C.due("one of forty", y.cut(0, 0, 1), 39);
        C.due("bar 1", y.bar(0, 1, 0), 3);
        C.due("bar 38", y.bar(0, 38, 0), 5);
        C.due("the last", y.cut(0, 38, 1), 38);
        C.due("bar 37", y.bar(0, 37, 0), 5);
        C.due("all the rest", y.cut(0, 0, 38), 0);
    }

    private static void free() {
        PageTurns x = Check.with("half 1 beats 7 free 1 beats 2 free 1 beats 3 busy 1 half 1 beats 5 half 1 beats 9 free 1 beats 12");
        int[] beats = {3 + 5, 5 + 3, 8, 2, 2 + 4, 4 + 12, 12 + 4};
        for (int b = 0; b < beats.length; b++) {
            C.due("free(0, " + b + ", 0)", x.free(0, b, 0), beats[b] * 100);
        }
        x.set(0, 0, 130);
        for (int b = 0; b < beats.length; b++) {
            C.due("free(0, " + b + ", 0) at 130", x.free(0, b, 0), beats[b] * 6000 / 130);
        }
        C.due("free bar 7", x.free(0, 7, 0), BEYOND);
        C.due("free bar -1", x.free(0, -1, 0), BEYOND);
        C.due("free how 2", x.free(0, 0, 2), BEYOND);
        C.due("free how -1", x.free(0, 0, -1), BEYOND);
        C.due("free part 1", x.free(1, 0, 0), BEYOND);
        C.due("free part -1", x.free(-1, 0, 0), BEYOND);
        // Cut once, at the end: 1 beat and 1 beat at 70 are 171, not 85 and 85.
        PageTurns y = Check.with("free 1 beats 1 free 1 beats 1");
        y.set(0, 0, 70);
        C.due("cut once", y.free(0, 0, 0), 171);
        PageTurns z = Check.with("8(5(free 1 beats 12))");
        z.set(0, 0, 30);
        C.due("as much as can be free", z.free(0, 17, 0), 96000);
    }

    private static void freeByHeart() {
        PageTurns x = Check.with("busy 1 beats 2 half 1 beats 3 busy 1 beats 5 free 1 beats 7 half 1 beats 11 busy 1");
        C.due("no hearts: as free", x.free(0, 0, 1), 100);
        x.set(0, 1, 1);
        C.due("1: the half one with all its beats", x.free(0, 0, 1), 300);
        C.due("how 0 knows no hearts", x.free(0, 0, 0), 100);
        x.set(0, 1, 2);
        C.due("2: and it goes on behind them", x.free(0, 0, 1), (3 + 5 + 7 + 5) * 100);
        x.set(0, 1, 8);
        C.due("8: as many as there are", x.free(0, 0, 1), (3 + 5 + 7 + 11 + 4) * 100);
        C.due("8: ahead of it nothing is by heart", x.free(0, 4, 1), (5 + 4) * 100);
        C.due("8: behind the last", x.free(0, 5, 1), 0);
    }

    private static void room() {
        PageTurns x = Check.with("busy 1 busy 2 busy 5 busy 59 busy 60");
        int[][] want = {{1, 1, 1}, {2, 2, 2}, {5, 4, 3}, {59, 48, 36}, {60, 48, 36}};
        for (int b = 0; b < 5; b++) {
            for (int size = 0; size < 3; size++) {
                C.due("room(0, " + b + ", " + size + ")", x.room(0, b, size), want[b][size]);
            }
        }
        C.due("room size 3", x.room(0, 0, 3), BEYOND);
        C.due("room size -1", x.room(0, 0, -1), BEYOND);
        C.due("room bar 5", x.room(0, 5, 0), BEYOND);
        C.due("room part 4", x.room(4, 0, 0), BEYOND);
    }
}
