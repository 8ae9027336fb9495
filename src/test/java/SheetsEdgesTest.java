import java.io.IOException;
import java.util.function.Supplier;

/** Promises 30 to 34: each sentence with its edges. */
public final class SheetsEdgesTest {
    private static final Edges E = new Edges("SheetsEdgesTest");
    private static final int MIN = Integer.MIN_VALUE;
    private static final int MAX = Integer.MAX_VALUE;
    private static final int BEYOND = Check.BEYOND;
    private static final int MISSING = Check.MISSING;
    private static final int SIZE = Check.SIZE;
    private static final int[] NO_SHEET = {-1, 4, MIN, MAX};

    public static void main(String[] args) throws IOException {
        sheet();
        sheetRefused();
        write();
        copy();
        copyRefused();
        rooms();
        pages();
        pagesRefused();
        E.finish("30", "31", "32", "33", "34");
    }

    /** An object whose part 0 has 40 bars of room 60. */
    private static PageTurns fortyBars() {
        return Check.with("8(5(busy 60))");
    }

    private static void write(PageTurns x, int s, int... numbers) {
        for (int i = 0; i < numbers.length; i++) {
            x.write(s, i, numbers[i]);
        }
    }

    /** The numbers of a sheet, from the first on; they must be 1 to 60. */
    private static void are(PageTurns x, int s, int... numbers) {
        x.rooms(s, 0);
        for (int i = 0; i < numbers.length; i++) {
            E.due("number " + i + " of sheet " + s, x.bar(0, i, 0), numbers[i]);
        }
    }

    private static void sheet() {
        E.says("30", "A sheet has n numbers, all 0, of 8, 16 or 32 bits;");
        for (int bits = 8; bits <= 32; bits *= 2) {
            PageTurns x = fortyBars();
            E.due(bits + " bits, 40", x.sheet(3, bits, 40), 40);
            E.due("none is 1 to 60", x.rooms(3, 0), 0);
            write(x, 3, 1 << bits - 1 | 7, 9);
            x.write(3, 39, 60);
            E.due("all but the great one", x.rooms(3, 0), 2);
            E.due(bits + " bits again", x.sheet(3, bits, 40), 40);
            E.due("none is 1 to 60 again", x.rooms(3, 0), 0);
            E.due("one", x.sheet(3, bits, 1), 1);
            E.due("the first", x.write(3, 0, 1), 1);
            E.due("no second", x.write(3, 1, 1), BEYOND);
            E.due("none", x.sheet(3, bits, 0), 0);
            E.due("it isn't missing", x.write(3, 0, 1), BEYOND);
            E.due("none come", x.rooms(3, 0), 0);
            E.due("longer again", x.sheet(3, bits, 2), 2);
            E.due("what was there is gone", x.rooms(3, 0), 0);
        }
        // All 0, as the last bars of pages.
        PageTurns one = Check.with("busy 60");
        one.sheet(0, 16, 1);
        E.due("number 0 is 0", one.pages(0, 0), 0);

        E.says("30", "bits 0: it is MISSING:");
        PageTurns y = fortyBars();
        y.sheet(2, 8, 3);
        y.sheet(1, 8, 3);
        E.due("missing", y.sheet(2, 0, 3), 0);
        E.due("write", y.write(2, 0, 1), MISSING);
        E.due("rooms", y.rooms(2, 0), MISSING);
        E.due("copy", y.copy(1, 0, 2, 0, 0), MISSING);
        E.due("pages", y.pages(2, 0), MISSING);
        E.due("another one isn't", y.write(1, 0, 1), 1);
        E.due("missing already", y.sheet(2, 0, 0), 0);

        E.says("30", "n (0 if it is MISSING).");
        PageTurns z = new PageTurns();
        for (int n = 0; n <= 40; n++) {
            E.due(z, "sheet(0, 8, " + n + ")", n);
        }
        E.due(z, "sheet(0, 0, 40)", 0);
        E.due(z, "sheet(0, 0, 1)", 0);
        E.due(z, "sheet(0, 0, 0)", 0);
    }

    private static void sheetRefused() {
        E.says("30", "BEYOND: no such sheet, other bits.");
        E.refused(States.RICH, "sheet(?, 8, 3)", BEYOND, NO_SHEET);
        E.refused(States.RICH, "sheet(?, 0, 0)", BEYOND, NO_SHEET);
        E.refused(States.RICH, "sheet(?, 8, -1)", BEYOND, NO_SHEET);
        E.refused(States.RICH, "sheet(0, ?, 3)", BEYOND, -1, 1, 7, 9, 15, 17, 31, 33, 64, -8, 24, MIN, MAX);
        E.refused(States.RICH, "sheet(0, ?, -1)", BEYOND, -1, 1, MIN, MAX);
        E.refused(States.NEW, "sheet(3, ?, 41)", BEYOND, -1, 1, MIN, MAX);

        E.says("30", "SIZE: n is below 0 (also with bits 0).");
        for (int bits : new int[] {0, 8, 16, 32}) {
            E.refused(States.RICH, "sheet(0, " + bits + ", ?)", SIZE, -1, -40, MIN);
            E.refused(States.NEW, "sheet(3, " + bits + ", ?)", SIZE, -1, MIN);
        }

        E.says("30", "BEYOND: n is above 40 (also with bits 0).");
        for (int bits : new int[] {0, 8, 16, 32}) {
            E.refused(States.RICH, "sheet(0, " + bits + ", ?)", BEYOND, 41, MAX);
            E.refused(States.FULL, "sheet(3, " + bits + ", ?)", BEYOND, 41, MAX);
        }
    }

    private static void write() {
        E.says("31", "Number i of a sheet becomes v (its lowest bits): 1.");
        PageTurns x = fortyBars();
        x.sheet(0, 8, 40);
        x.sheet(1, 16, 40);
        x.sheet(2, 32, 40);
        for (int s = 0; s < 3; s++) {
            E.due("the first", x.write(s, 0, 1), 1);
            E.due("the last", x.write(s, 39, 2), 1);
            E.due("the least int", x.write(s, 1, MIN), 1);
            E.due("the greatest int", x.write(s, 2, MAX), 1);
            E.due("two came", x.rooms(s, 0), 2);
            E.due("again", x.write(s, 39, 3), 1);
            E.due("two came", x.rooms(s, 0), 2);
            E.due("the first", x.bar(0, 0, 0), 1);
            E.due("the last", x.bar(0, 39, 0), 3);
            E.due("others are left out", x.bar(0, 38, 0), 60);
        }
        // 5 and just one bit more: the highest that stays and the lowest that doesn't.
        int[][] came = {{0, 1, 1}, {0, 0, 1}, {0, 0, 0}};
        for (int s = 0; s < 3; s++) {
            x.sheet(s, 8 << s, 1);
            int[] bits = {7, 8, 16};
            for (int i = 0; i < 3; i++) {
                x.write(s, 0, 5 | 1 << bits[i]);
                E.due("sheet " + s + ": 5 and bit " + bits[i], x.rooms(s, 0), came[s][i]);
            }
            x.write(s, 0, 5 | 1 << 15);
            E.due("sheet " + s + ": 5 and bit 15", x.rooms(s, 0), s == 0 ? 1 : 0);
            x.write(s, 0, 5 | 1 << 31);
            E.due("sheet " + s + ": 5 and bit 31", x.rooms(s, 0), s == 2 ? 0 : 1);
        }

        E.says("31", "BEYOND: no such sheet.");
        E.refused(States.RICH, "write(?, 0, 1)", BEYOND, NO_SHEET);
        E.refused(States.NEW, "write(?, 0, 1)", BEYOND, NO_SHEET);

        E.says("31", "MISSING.");
        E.refused(States.RICH, "write(3, ?, 1)", MISSING, 0, -1, 40, MIN, MAX);
        E.refused(States.NEW, "write(?, 0, 1)", MISSING, 0, 1, 2, 3);

        E.says("31", "BEYOND: no such number.");
        E.refused(States.RICH, "write(0, ?, 1)", BEYOND, -1, 3, 40, MIN, MAX);
        E.refused(States.RICH, "write(2, ?, 1)", BEYOND, 0, -1);
        E.refused(States.FULL, "write(0, ?, 1)", BEYOND, -1, 40);
    }

    private static void copy() {
        E.says("32", "n numbers of a sheet from one on come to another one from one on (as they all were): n.");
        PageTurns x = fortyBars();
        x.sheet(0, 8, 5);
        x.sheet(1, 8, 4);
        write(x, 0, 11, 12, 13, 14, 15);
        write(x, 1, 21, 22, 23, 24);
        E.due("one", x.copy(0, 4, 1, 0, 1), 1);
        are(x, 1, 15, 22, 23, 24);
        E.due("none", x.copy(0, 0, 1, 0, 0), 0);
        E.due("none, at both ends", x.copy(0, 5, 1, 4, 0), 0);
        are(x, 1, 15, 22, 23, 24);
        E.due("all that there is room for", x.copy(0, 1, 1, 0, 4), 4);
        are(x, 1, 12, 13, 14, 15);
        are(x, 0, 11, 12, 13, 14, 15);
        E.due("in itself, up", x.copy(0, 0, 0, 1, 4), 4);
        are(x, 0, 11, 11, 12, 13, 14);
        E.due("in itself, down", x.copy(0, 1, 0, 0, 4), 4);
        are(x, 0, 11, 12, 13, 14, 14);
        E.due("in itself, all", x.copy(0, 0, 0, 0, 5), 5);
        are(x, 0, 11, 12, 13, 14, 14);
        for (int bits = 8; bits <= 32; bits *= 2) {
            PageTurns y = fortyBars();
            y.sheet(2, bits, 40);
            y.sheet(3, bits, 40);
            y.write(2, 0, 5);
            y.write(2, 39, 7);
            E.due("40 of " + bits + " bits", y.copy(2, 0, 3, 0, 40), 40);
            E.due("two are 1 to 60", y.rooms(3, 0), 2);
            E.due("the last", y.bar(0, 39, 0), 7);
            y.write(2, 0, 1 << bits - 2);
            E.due("a great one", y.copy(2, 0, 3, 0, 1), 1);
            E.due("one is 1 to 60", y.rooms(3, 0), 1);
        }
        PageTurns none = new PageTurns();
        none.sheet(0, 8, 0);
        E.due("none of none", none.copy(0, 0, 0, 0, 0), 0);
    }

    private static void copyRefused() {
        E.says("32", "BEYOND: no such sheet (either).");
        E.refused(States.RICH, "copy(?, 0, 0, 0, 1)", BEYOND, NO_SHEET);
        E.refused(States.RICH, "copy(0, 0, ?, 0, 1)", BEYOND, NO_SHEET);
        E.refused(States.RICH, "copy(?, 0, 3, 0, 1)", BEYOND, NO_SHEET);
        E.refused(States.RICH, "copy(3, 0, ?, 0, 1)", BEYOND, NO_SHEET);
        E.refused(States.RICH, "copy(?, 0, ?, 0, 0)", BEYOND, NO_SHEET);

        E.says("32", "MISSING: one is.");
        E.refused(States.RICH, "copy(3, ?, 0, 0, 1)", MISSING, 0, -1, MAX);
        E.refused(States.RICH, "copy(0, 0, 3, ?, 1)", MISSING, 0, -1, MAX);
        E.refused(States.RICH, "copy(3, 0, 3, 0, ?)", MISSING, 0, 1, -1);
        E.refused(States.RICH, "copy(1, 0, 3, 0, 1)", MISSING);
        E.refused(States.NEW, "copy(0, 0, 1, 0, 0)", MISSING);

        E.says("32", "KIND: they are not of as many bits.");
        E.refused(States.RICH, "copy(0, 0, 1, 0, ?)", Check.KIND, 0, 1, -1, 3, MIN, MAX);
        E.refused(States.RICH, "copy(1, ?, 0, 0, 1)", Check.KIND, 0, -1, 2, MIN, MAX);
        E.refused(States.RICH, "copy(1, 0, 2, ?, 0)", Check.KIND, 0, -1, 1, MIN, MAX);
        PageTurns x = new PageTurns();
        x.sheet(0, 16, 1);
        x.sheet(1, 32, 1);
        E.due("16 and 32", x.copy(0, 0, 1, 0, 1), Check.KIND);
        E.due("32 and 16", x.copy(1, 0, 0, 0, 1), Check.KIND);

        E.says("32", "BEYOND: one has not so many, or from, to or n is below 0.");
        Supplier<PageTurns> two = () -> {
            PageTurns y = States.RICH.get();
            y.sheet(1, 8, 5);
            return y;
        };
        // Sheet 0 has 3 numbers, sheet 1 has 5.
        E.refused(two, "copy(0, 0, 1, 0, ?)", BEYOND, 4, 40, -1, MIN, MAX);
        E.refused(two, "copy(1, 0, 0, 0, ?)", BEYOND, 4, 5, -1, MIN, MAX);
        E.refused(two, "copy(0, ?, 1, 0, 1)", BEYOND, 3, 40, -1, MIN, MAX);
        E.refused(two, "copy(0, ?, 1, 0, 0)", BEYOND, 4, 40, -1, MIN, MAX);
        E.refused(two, "copy(1, 0, 0, ?, 1)", BEYOND, 3, 40, -1, MIN, MAX);
        E.refused(two, "copy(1, 0, 0, ?, 0)", BEYOND, 4, 40, -1, MIN, MAX);
        E.refused(two, "copy(1, 3, 0, 0, 3)", BEYOND);
        E.refused(two, "copy(1, 0, 0, 1, 3)", BEYOND);
        // Sums that wrap around.
        E.refused(two, "copy(0, ?, 1, 0, MAX)", BEYOND, 1, 2, 3, MAX, MIN);
        E.refused(two, "copy(0, 0, 1, ?, MAX)", BEYOND, 1, 2, 5, MAX, MIN);
        PageTurns z = two.get();
        E.due("just so many", z.copy(1, 2, 0, 0, 3), 3);
        E.due("just so many", z.copy(0, 0, 1, 2, 3), 3);
    }

    private static void rooms() {
        E.says("33", "Numbers of a sheet become ROOMS of BARS of a PART from BAR 0 on (number i of BAR i;");
        PageTurns x = Check.with("busy 9 beats 3 keep half 9 free 9");
        Check.read(x, 1, "busy 8");
        x.sheet(0, 8, 3);
        write(x, 0, 1, 30, 60);
        E.due("three", x.rooms(0, 0), 3);
        int[] rooms = {1, 30, 60};
        for (int b = 0; b < 3; b++) {
            E.due("bar " + b, x.bar(0, b, 0), rooms[b]);
            E.due("its hand is as it was", x.bar(0, b, 1), b);
        }
        E.due("its beats are", x.bar(0, 0, 2), 3);
        E.due("its marks are", x.bar(0, 0, 3), 1);
        E.due("another part's is", x.bar(1, 0, 0), 8);
        PageTurns laid = Check.with("2(busy 60)");
        laid.sheet(0, 8, 2);
        write(laid, 0, 30, 30);
        E.due("a laying that was asked before", laid.best(0, 3), 2);
        laid.rooms(0, 0);
        E.due("both fit into a line", laid.best(0, 3), 1);
        PageTurns full = fortyBars();
        full.sheet(0, 8, 40);
        for (int i = 0; i < 40; i++) {
            full.write(0, i, i + 1);
        }
        E.due("forty", full.rooms(0, 0), 40);
        E.due("the last", full.bar(0, 39, 0), 40);

        E.says("33", "those that aren't 1 to 60 are left out,");
        PageTurns y = Check.with("4(busy 9)");
        y.sheet(0, 8, 4);
        write(y, 0, 0, 61, 255, 60);
        E.due("60 alone came", y.rooms(0, 0), 1);
        are(y, 0, 9, 9, 9, 60);
        write(y, 0, 1, 0, 128, 61);
        E.due("1 alone came", y.rooms(0, 0), 1);
        are(y, 0, 1, 9, 9, 60);
        y.sheet(1, 32, 4);
        write(y, 1, -1, MIN, MAX, MIN + 60);
        E.due("none came", y.rooms(1, 0), 0);

        E.says("33", "so are those for which there is no BAR):");
        PageTurns z = Check.with("busy 9 busy 9");
        z.sheet(0, 8, 40);
        write(z, 0, 1, 2, 3, 4);
        E.due("two of 40", z.rooms(0, 0), 2);
        E.due("no bars more", z.count(0), 2);
        E.due("none for a part without bars", z.rooms(0, 3), 0);
        Check.read(z, 0, "busy 9");
        E.due("what was left out is gone", z.bar(0, 2, 0), 9);

        E.says("33", "how many came.");
        E.due("three", z.rooms(0, 0), 3);
        E.due("the same again", z.rooms(0, 0), 3);
        z.sheet(0, 8, 0);
        E.due("none of none", z.rooms(0, 0), 0);

        E.says("33", "BEYOND: no such sheet.");
        E.refused(States.RICH, "rooms(?, 0)", BEYOND, NO_SHEET);
        E.refused(States.RICH, "rooms(?, 4)", BEYOND, NO_SHEET);

        E.says("33", "MISSING.");
        E.refused(States.RICH, "rooms(3, ?)", MISSING, 0, 4, -1, MIN, MAX);
        E.refused(States.NEW, "rooms(?, 0)", MISSING, 0, 1, 2, 3);

        E.says("33", "BEYOND: part.");
        E.refused(States.RICH, "rooms(0, ?)", BEYOND, Edges.NO_PART);
        E.refused(States.RICH, "rooms(2, ?)", BEYOND, Edges.NO_PART);
    }

    /** Pages of 1, 2 and 2 bars; sheet 0 is of so many numbers. */
    private static PageTurns threePages(int bits, int n) {
        PageTurns x = Check.with("5(busy 60)");
        x.rule(1, 2);
        x.rule(2, 0);
        x.sheet(0, bits, n);
        return x;
    }

    private static void pages() {
        E.says("34", "THE READER: numbers of a sheet are the last BARS of PAGES of THE LAYING of a PART: "
                + "0 if they are just so;");
        for (int bits = 8; bits <= 32; bits *= 2) {
            PageTurns x = threePages(bits, 3);
            write(x, 0, 0, 2, 4);
            E.due(x, "pages(0, 0)", 0);
        }
        PageTurns full = Check.with("8(5(busy 60))");
        full.rule(1, 1);
        full.sheet(3, 8, 40);
        for (int i = 0; i < 40; i++) {
            full.write(3, i, i);
        }
        E.due("forty", full.pages(3, 0), 0);
        PageTurns one = Check.with("busy 60");
        one.sheet(0, 8, 1);
        E.due("one", one.pages(0, 0), 0);
        E.keeps(States.RICH, "pages(0, 0)", "pages(2, 3)");

        E.says("34", "else 1 more than how many of them, from the first on, are right.");
        PageTurns x = threePages(8, 3);
        write(x, 0, 1, 2, 4);
        E.due("the first is wrong", x.pages(0, 0), 1);
        write(x, 0, 0, 1, 4);
        E.due("the second is", x.pages(0, 0), 2);
        write(x, 0, 0, 2, 3);
        E.due("the third is", x.pages(0, 0), 3);
        PageTurns more = threePages(8, 4);
        write(more, 0, 0, 2, 4, 5);
        E.due("one too many", more.pages(0, 0), 4);
        PageTurns old = threePages(8, 4);
        old.rule(1, 1);
        E.due("there were five pages", old.best(0, 2), 5);
        old.rule(1, 2);
        write(old, 0, 0, 2, 4, 3);
        E.due("one too many, that was right before", old.pages(0, 0), 4);
        PageTurns fewer = threePages(8, 2);
        write(fewer, 0, 0, 2);
        E.due("one too few", fewer.pages(0, 0), 3);
        E.due("none", threePages(8, 0).pages(0, 0), 1);
        full.write(3, 39, 38);
        E.due("the last of forty is wrong", full.pages(3, 0), 40);
        PageTurns wide = threePages(16, 3);
        write(wide, 0, 256, 2, 4);
        E.due("256 isn't 0", wide.pages(0, 0), 1);
        PageTurns narrow = threePages(8, 3);
        write(narrow, 0, 256, 258, -252);
        E.due("of 8 bits it is", narrow.pages(0, 0), 0);
        PageTurns below = threePages(32, 3);
        write(below, 0, MIN, 2, 4);
        E.due("nor is the least", below.pages(0, 0), 1);
    }

    private static void pagesRefused() {
        E.says("34", "BEYOND: no such sheet.");
        E.refused(States.RICH, "pages(?, 0)", BEYOND, NO_SHEET);
        E.refused(States.RICH, "pages(?, 2)", BEYOND, NO_SHEET);

        E.says("34", "MISSING.");
        E.refused(States.RICH, "pages(3, ?)", MISSING, 0, 2, 4, -1, MIN, MAX);
        E.refused(States.NEW, "pages(?, 0)", MISSING, 0, 1, 2, 3);

        E.says("34", "BEYOND: part.");
        E.refused(States.RICH, "pages(0, ?)", BEYOND, Edges.NO_PART);

        E.says("34", "NONE: there is no LAYING.");
        E.refused(States.RICH, "pages(?, 2)", Check.NONE, 0, 1, 2);
        Supplier<PageTurns> narrow = () -> {
            PageTurns x = States.RICH.get();
            x.rule(0, 35);
            return x;
        };
        E.refused(narrow, "pages(2, ?)", Check.NONE, 1, 3);
        PageTurns x = threePages(8, 3);
        x.rule(0, 36);
        E.due("there is one", x.pages(0, 0) >= 0 ? 1 : 0, 1);
        x.rule(0, 35);
        E.due("there is none", x.pages(0, 0), Check.NONE);
    }
}
