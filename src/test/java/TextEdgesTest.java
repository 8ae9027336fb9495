import java.io.IOException;
import java.util.function.Supplier;

/** The document's "Terms" of a TEXT: each sentence with its edges. */
public final class TextEdgesTest {
    private static final Edges E = new Edges("TextEdgesTest");

    public static void main(String[] args) throws IOException {
        tape();
        tokens();
        signsAndBlanks();
        items();
        barsOfText();
        faults();
        E.finish("T2");
    }

    private static void good(String text, int bars) {
        PageTurns x = new PageTurns();
        E.due("'" + text + "'", Check.read(x, 2, text), bars);
        E.due("bars of '" + text + "'", x.count(0), bars);
    }

    private static void fault(String text, int place) {
        PageTurns x = Check.with("busy 1");
        E.due("'" + text + "'", Check.read(x, 0, text), -1 - place);
        E.due("bars behind '" + text + "'", x.count(0), 1);
        E.due("the tape behind '" + text + "'", x.count(2), 0);
        E.due("findings behind '" + text + "'", x.status(-1), 0);
    }

    private static void tape() {
        E.says("T2", "A TEXT is read from THE TAPE (bytes, at most 120).");
        good("busy 1" + " ".repeat(114), 1);
        good("busy1".repeat(24), 24);
        PageTurns x = new PageTurns();
        Check.feed(x, " ".repeat(119));
        E.due(x, "count(2)", 119);
        E.due(x, "feed(32, 2)", Check.FULL);
        E.due(x, "feed(32, 1)", 120);
        E.due(x, "feed(32, 1)", Check.FULL);
        E.due(x, "count(2)", 120);
        E.due("the last byte counts", Check.read(x, 0, ""), -121);
        fault("busy 1" + " ".repeat(113) + "x", 119);
        // As many tokens as bytes.
        fault(")".repeat(120), 0);
        fault("busy 1" + "(".repeat(114), 6);
        // Bytes, not signs of 7 bits: 225 is 97 and 128.
        fault("busy 1 " + (char) 225, 7);
    }

    private static void tokens() {
        E.says("T2", "TOKENS, each as long as can be:");
        good("busy12beats3keep", 1);
        fault("busyhalf 5", 0);
        fault("busy 5 keepwish", 7);
        fault("busy 5 beats 1 2", 16);
        PageTurns x = Check.with("busy12");
        E.due("12, not 1 and 2", x.bar(0, 0, 0), 12);
        good("busy 1busy 2", 2);

        E.says("T2", "WORDS (letters a to z),");
        fault("busya 3", 0);
        fault("busyz 3", 0);
        fault("busy`3", 4);
        fault("busy{3", 4);
        fault("Busy 3", 0);
        fault("busY 3", 0);
        fault("busyA3", 4);
        fault("busyZ3", 4);

        E.says("T2", "NUMBERS (rows of digits, 9999 at most),");
        PageTurns y = Check.with("busy 09 busy 10 busy 59");
        E.due("9", y.bar(0, 0, 0), 9);
        E.due("10", y.bar(0, 1, 0), 10);
        E.due("59", y.bar(0, 2, 0), 59);
        fault("busy 5/", 6);
        fault("busy 5:", 6);
        fault("busy 9999", 5);
        fault("busy 10000", 5);
        fault("busy 10001", 5);
        // Numbers that wrap around to 1 in 16, 32 or 64 bits.
        fault("busy 65537", 5);
        fault("busy 4294967297", 5);
        fault("busy 18446744073709551617", 5);
        fault("busy " + "9".repeat(115), 5);
        fault("65537(busy 1)", 0);
        fault("4294967297(busy 1)", 0);
        fault("busy 1 beats 4294967297", 13);
        good("busy " + "0".repeat(114) + "7", 1);
    }

    private static void signsAndBlanks() {
        E.says("T2", "SIGNS ( );");
        good("2(busy 1)", 2);
        fault("2'busy 1)", 1);
        fault("2*busy 1)", 1);
        fault("2[busy 1]", 1);
        fault("2(busy 1'", 8);
        fault("2(busy 1*", 8);
        fault("2((busy 1))", 2);

        E.says("T2", "blanks (byte 32) may stand between.");
        good(" 2 ( busy  1   beats 2  keep ) ", 2);
        good("2(busy1beats2keep)", 2);
        for (int other : new int[] {0, 9, 10, 13, 31, 33, 127, 128, 160, 255}) {
            fault("busy 1" + (char) other + "busy 2", 6);
        }
        fault("bu sy 1", 0);
        fault("busy 1 5", 8);
    }

    private static void items() {
        E.says("T2", "TEXT: ITEM { ITEM }.");
        fault("", 0);
        good("busy 1", 1);
        good("busy 1 2(busy 1)busy 1 2(busy 1)", 6);
        fault("2()", 2);
        fault("busy 1 )", 7);

        E.says("T2", "ITEM: BAR, or NUMBER ( TEXT ) (the NUMBER 1 to 9: so often).");
        good("1(busy 1)", 1);
        good("9(busy 1)", 9);
        fault("0(busy 1)", 0);
        fault("10(busy 1)", 0);
        fault("(busy 1)", 0);
        fault("2 busy 1", 2);
        fault("2)", 1);
        fault("2 2(busy 1)", 2);
        good("03(busy 1)", 3);
        PageTurns x = Check.with("2(busy 1 2(free 2)half 3)");
        int[] rooms = {1, 2, 2, 3, 1, 2, 2, 3};
        for (int b = 0; b < rooms.length; b++) {
            E.due("room of bar " + b, x.bar(0, b, 0), rooms[b]);
        }
        good("8(5(busy 1))", 40);
    }

    private static void barsOfText() {
        E.says("T2", "BAR: busy, half or free, a NUMBER (ROOM 1 to 60),");
        PageTurns x = Check.with("busy 1 half 60 free 30");
        int[][] want = {{1, 0}, {60, 1}, {30, 2}};
        for (int b = 0; b < 3; b++) {
            E.due("room of bar " + b, x.bar(0, b, 0), want[b][0]);
            E.due("hand of bar " + b, x.bar(0, b, 1), want[b][1]);
        }
        for (String hand : new String[] {"busy", "half", "free"}) {
            fault(hand + " 0", 5);
            fault(hand + " 61", 5);
            fault(hand + " keep", 5);
            fault(hand, 4);
        }

        E.says("T2", "perhaps beats and a NUMBER (1 to 12; 4 without),");
        PageTurns y = Check.with("busy 1 beats 1 busy 1 beats 12 busy 1 busy 1 keep");
        int[] beats = {1, 12, 4, 4};
        for (int b = 0; b < 4; b++) {
            E.due("beats of bar " + b, y.bar(0, b, 2), beats[b]);
        }
        fault("busy 1 beats 0", 13);
        fault("busy 1 beats 13", 13);
        fault("busy 1 beats keep", 13);
        fault("busy 1 beats 2 beats 2", 15);
        fault("busy 1 keep beats 2", 12);

        E.says("T2", "and any of keep, letter, wish (also the same again).");
        PageTurns z = Check.with("busy 1 wish keep letter busy 1 wish wish busy 1 letter busy 1 keep letter keep");
        int[] marks = {7, 4, 2, 3};
        for (int b = 0; b < 4; b++) {
            E.due("marks of bar " + b, z.bar(0, b, 3), marks[b]);
        }
        good("busy 1" + " keep".repeat(22), 1);
        good("busy 1 wish" + " wish".repeat(20) + " keep", 1);
    }

    private static void faults() {
        E.says("T2", "FAULT: the place (from 0) of the first byte of the first TOKEN that can't stand there");
        fault("busy 1 busy 61 loud (", 12);
        fault("  keep 1", 2);
        fault("9(9(busy 1)) 6", 14);
        fault("9(9(busy 1)) 61(", 13);
        fault("busy 1" + " ".repeat(112) + "kx", 118);

        E.says("T2", "(a NUMBER that isn't as told,");
        fault("busy 61 keep", 5);
        fault("busy 5 beats 13 keep", 13);
        fault("10(busy 1)", 0);
        fault("busy 1 0", 7);

        E.says("T2", "another WORD,");
        fault("loud 1", 0);
        fault("bus 1", 0);
        fault("busy 1 keeps", 7);
        fault("busy 1 lette", 7);
        for (String word : new String[] {"cusy", "busx", "galf", "hale", "gree", "fref", "bury", "hall", "flee"}) {
            fault(word + " 1", 0);
        }
        for (String word : new String[] {"ceats", "beatt", "jeep", "kees", "netter", "lettes", "fish", "wisp"}) {
            fault("busy 1 " + word + " 1", 7);
        }
        fault("busy half", 5);
        fault("beats 3", 0);
        fault("2(wish)", 2);

        E.says("T2", "a byte that begins no TOKEN,");
        fault("busy 1 -", 7);
        fault("busy -1", 5);
        fault("busy 1 " + (char) 0, 7);
        fault("busy 1 " + (char) 255, 7);
        fault("busy" + (char) 128 + "1", 4);

        E.says("T2", "a ( while 4 are open: its own),");
        good("1(1(1(1(busy 9))))", 1);
        fault("1(1(1(1(1(busy 9)))))", 9);
        fault("1(1(1(1(1  (busy 9)))))", 11);
        fault("1(1(1(1(busy 9 2 (busy 1)))))", 17);
        fault("1(1(1(1(10(busy 9)))))", 8);
        good("1(1(1(1(busy 9)1(busy 8))))1(1(1(1(busy 7))))", 3);

        E.says("T2", "or how many bytes there are (blanks, too) if it ends too early.");
        fault("", 0);
        fault(" ", 1);
        fault(" ".repeat(120), 120);
        fault("busy", 4);
        fault("busy  ", 6);
        fault("busy 1 beats", 12);
        fault("2", 1);
        fault("2 ", 2);
        fault("2(", 2);
        fault("2(busy 1", 8);
        fault("2(busy 1   ", 11);
        fault("1(1(1(1(busy 1)))", 17);
        Supplier<PageTurns> early = () -> {
            PageTurns x = States.RICH.get();
            x.wipe();
            Check.feed(x, "busy 1 2(busy 2 ");
            return x;
        };
        E.like(early, "read(0)", -17, "wipe()");
    }
}
