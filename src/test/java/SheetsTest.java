/** Promises 30 to 34: sheets, rooms from them, and the reader. */
public final class SheetsTest {
    private static final Check C = new Check("SheetsTest");
    private static final int BEYOND = Check.BEYOND;
    private static final int KIND = Check.KIND;
    private static final int MISSING = Check.MISSING;
    private static final int NONE = Check.NONE;
    private static final int SIZE = Check.SIZE;
    private static final int FAR = Integer.MAX_VALUE;

    public static void main(String[] args) {
        sheet();
        write();
        copy();
        rooms();
        pages();
        C.finish();
    }

    private static void sheet() {
        PageTurns x = new PageTurns();
        C.due("8 bits", x.sheet(0, 8, 40), 40);
        C.due("16 bits", x.sheet(1, 16, 3), 3);
        C.due("32 bits", x.sheet(3, 32, 0), 0);
        C.due("a sheet of none isn't missing", x.write(3, 0, 1), BEYOND);
        C.due("bits 0", x.sheet(0, 0, 40), 0);
        C.due("it is missing", x.write(0, 0, 1), MISSING);
        C.due("sheet -1", x.sheet(-1, 8, 1), BEYOND);
        C.due("sheet 4", x.sheet(4, 8, 1), BEYOND);
        for (int bits : new int[] {-8, -1, 1, 7, 9, 24, 31, 33, 64, FAR, Integer.MIN_VALUE}) {
            C.due("bits " + bits, x.sheet(1, bits, 1), BEYOND);
        }
        C.due("other bits go ahead of n", x.sheet(1, 7, -1), BEYOND);
        C.due("n -1", x.sheet(1, 8, -1), SIZE);
        C.due("n least", x.sheet(1, 8, Integer.MIN_VALUE), SIZE);
        C.due("n -1 with bits 0", x.sheet(1, 0, -1), SIZE);
        C.due("n 41", x.sheet(1, 8, 41), BEYOND);
        C.due("n 41 with bits 0", x.sheet(1, 0, 41), BEYOND);
        C.due("status of SIZE", x.status(6), 3);
        C.due("sheet 1 is as it was", x.write(1, 2, 1), 1);
        C.due("sheet 1 is as long as it was", x.write(1, 3, 1), BEYOND);
    }

    private static void write() {
        PageTurns x = Check.with("3(busy 1)");
        x.sheet(0, 8, 3);
        C.due("write", x.write(0, 0, 256 + 5), 1);
        C.due("write", x.write(0, 1, -256 + 60), 1);
        C.due("write", x.write(0, 2, 0x7fffff00 | 61), 1);
        C.due("lowest 8 bits", x.rooms(0, 0), 2);
        C.due("5", x.bar(0, 0, 0), 5);
        C.due("60", x.bar(0, 1, 0), 60);
        x.sheet(1, 16, 3);
        x.write(1, 0, 65536 + 7);
        x.write(1, 1, 256 + 8);
        x.write(1, 2, -65536 + 9);
        C.due("lowest 16 bits", x.rooms(1, 0), 2);
        C.due("7", x.bar(0, 0, 0), 7);
        C.due("60", x.bar(0, 1, 0), 60);
        C.due("9", x.bar(0, 2, 0), 9);
        x.sheet(2, 32, 3);
        x.write(2, 0, 65536 + 7);
        x.write(2, 1, Integer.MIN_VALUE + 8);
        x.write(2, 2, 10);
        C.due("all 32 bits", x.rooms(2, 0), 1);
        C.due("10", x.bar(0, 2, 0), 10);
        C.due("sheet 4", x.write(4, 0, 0), BEYOND);
        C.due("sheet -1", x.write(-1, 0, 0), BEYOND);
        C.due("missing", x.write(3, -1, 0), MISSING);
        C.due("number 3", x.write(0, 3, 0), BEYOND);
        C.due("number -1", x.write(0, -1, 0), BEYOND);
        C.due("number far", x.write(0, FAR, 0), BEYOND);
    }

    private static PageTurns withSheets() {
        PageTurns x = Check.with("8(busy 50)");
        x.sheet(0, 8, 6);
        x.sheet(1, 8, 4);
        x.sheet(2, 16, 6);
        for (int i = 0; i < 6; i++) {
            x.write(0, i, 11 + i);
            x.write(1, i, 21 + i);
        }
        return x;
    }

    private static void is(PageTurns x, int s, int... numbers) {
        x.rooms(s, 0);
        for (int i = 0; i < numbers.length; i++) {
            C.due("number " + i + " of sheet " + s, x.bar(0, i, 0), numbers[i]);
        }
    }

    private static void copy() {
        PageTurns x = withSheets();
        C.due("copy", x.copy(0, 2, 1, 1, 3), 3);
        is(x, 1, 21, 13, 14, 15);
        is(x, 0, 11, 12, 13, 14, 15, 16);
        C.due("up in itself", x.copy(0, 0, 0, 1, 5), 5);
        is(x, 0, 11, 11, 12, 13, 14, 15);
        C.due("down in itself", x.copy(0, 1, 0, 0, 5), 5);
        is(x, 0, 11, 12, 13, 14, 15, 15);
        C.due("none", x.copy(0, 6, 1, 4, 0), 0);
        C.due("none from behind the end", x.copy(0, 7, 1, 4, 0), BEYOND);
        C.due("none to behind the end", x.copy(0, 6, 1, 5, 0), BEYOND);
        C.due("from has not so many", x.copy(0, 4, 1, 0, 3), BEYOND);
        C.due("to has not so many", x.copy(0, 0, 1, 2, 3), BEYOND);
        C.due("from -1", x.copy(0, -1, 1, 0, 1), BEYOND);
        C.due("to -1", x.copy(0, 0, 1, -1, 1), BEYOND);
        C.due("n -1", x.copy(0, 1, 1, 1, -1), BEYOND);
        C.due("n far", x.copy(0, 1, 1, 1, FAR), BEYOND);
        C.due("from far", x.copy(0, FAR, 1, 0, 1), BEYOND);
        C.due("from least", x.copy(0, Integer.MIN_VALUE, 1, 0, FAR), BEYOND);
        C.due("other bits", x.copy(0, 0, 2, 0, 1), KIND);
        C.due("KIND goes ahead of BEYOND", x.copy(0, -1, 2, 0, 1), KIND);
        C.due("missing", x.copy(0, 0, 3, 0, 1), MISSING);
        C.due("missing, too", x.copy(3, 0, 0, 0, 1), MISSING);
        C.due("both are", x.copy(3, 0, 3, 0, 0), MISSING);
        C.due("sheet 4", x.copy(4, 0, 3, 0, 1), BEYOND);
        C.due("sheet -1", x.copy(3, 0, -1, 0, 1), BEYOND);
        is(x, 1, 21, 13, 14, 15);
        x.sheet(1, 8, 4);
        C.due("a new sheet is all 0", x.rooms(1, 0), 0);
    }

    private static void rooms() {
        PageTurns x = Check.with("busy 1 busy 2 busy 3");
        x.sheet(0, 8, 5);
        int[] numbers = {60, 0, 61, 7, 7};
        for (int i = 0; i < 5; i++) {
            x.write(0, i, numbers[i]);
        }
        C.due("one came", x.rooms(0, 0), 1);
        C.due("60", x.bar(0, 0, 0), 60);
        C.due("0 is left out", x.bar(0, 1, 0), 2);
        C.due("61 is left out", x.bar(0, 2, 0), 3);
        C.due("there are no more bars", x.count(0), 3);
        C.due("no bars", x.rooms(0, 1), 0);
        x.write(0, 0, 1);
        C.due("1 is taken", x.rooms(0, 0), 1);
        C.due("1", x.bar(0, 0, 0), 1);
        C.due("sheet 4", x.rooms(4, 0), BEYOND);
        C.due("sheet -1", x.rooms(-1, 4), BEYOND);
        C.due("missing goes ahead of part", x.rooms(1, 4), MISSING);
        C.due("part 4", x.rooms(0, 4), BEYOND);
        C.due("part -1", x.rooms(0, -1), BEYOND);
    }

    private static void pages() {
        PageTurns x = Check.with("5(busy 60)");
        x.rule(1, 2);
        x.rule(2, 0);
        // Pages of 1, 2 and 2 bars.
        x.sheet(0, 8, 3);
        C.due("the first 0 is right", x.pages(0, 0), 2);
        x.write(0, 1, 2);
        C.due("two are right", x.pages(0, 0), 3);
        x.write(0, 2, 4);
        C.due("just so", x.pages(0, 0), 0);
        x.write(0, 0, 1);
        C.due("none, from the first on", x.pages(0, 0), 1);
        x.sheet(1, 32, 4);
        x.write(1, 1, 2);
        x.write(1, 2, 4);
        C.due("one too many", x.pages(1, 0), 4);
        x.sheet(2, 16, 2);
        x.write(2, 1, 2);
        C.due("one too few", x.pages(2, 0), 3);
        x.sheet(2, 16, 0);
        C.due("none", x.pages(2, 0), 1);
        C.due("sheet 4", x.pages(4, 0), BEYOND);
        C.due("sheet -1", x.pages(-1, 4), BEYOND);
        C.due("missing goes ahead of part", x.pages(3, 4), MISSING);
        C.due("part 4", x.pages(0, 4), BEYOND);
        C.due("part -1", x.pages(0, -1), BEYOND);
        C.due("no laying", x.pages(0, 1), NONE);
    }
}
