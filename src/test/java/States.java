import java.util.function.Supplier;

/** Objects in states at which calls are refused; each is made anew. */
final class States {
    /** A new object. */
    static final Supplier<PageTurns> NEW = PageTurns::new;
    /** Something of everything, and an image that is not what is. */
    static final Supplier<PageTurns> RICH = States::rich;
    /** All is full: bars, breaks, spots, the tape, sheets. */
    static final Supplier<PageTurns> FULL = States::full;

    private States() {
    }

    private static PageTurns rich() {
        PageTurns x = Check.with("free 20 beats 3 keep half 15 beats 5 letter busy 30 wish 2(busy 25 free 10 beats 2)");
        Check.read(x, 1, "3(busy 60)half 7 beats 1");
        Check.read(x, 3, "busy 60 free 60 beats 9 busy 60");
        x.set(0, 0, 90);
        x.set(0, 1, 2);
        x.set(0, 2, 1);
        x.set(0, 3, 4);
        x.rule(0, 70);
        x.rule(1, 2);
        x.lay(1, 0, 2);
        x.lay(3, 1, 1);
        x.hold(0, 0);
        x.image();
        x.set(1, 0, 120);
        x.set(1, 2, 3);
        x.set(3, 3, 2);
        x.rule(1, 1);
        x.rule(2, 120);
        x.rule(3, 3);
        x.rule(4, 40);
        x.change(0, 4, 1, 1);
        x.lay(6, 0, 4);
        x.lay(4, 3, 1);
        x.hold(3, 2);
        x.hold(9, 3);
        x.sheet(0, 8, 3);
        x.write(0, 0, 5);
        x.write(0, 1, 200);
        x.write(0, 2, 60);
        x.sheet(1, 16, 2);
        x.write(1, 1, 33);
        x.sheet(2, 8, 0);
        Check.feed(x, "busy 7 keep 2(half 3)");
        return x;
    }

    private static PageTurns full() {
        PageTurns x = new PageTurns();
        for (int p = 0; p < 4; p++) {
            Check.read(x, p, "8(4(busy 60)free 60)");
        }
        x.rule(1, 1);
        for (int k = 0; k < 30; k++) {
            x.lay(k % 7, k % 4, k);
        }
        for (int s = 0; s < 10; s++) {
            x.hold(s, 29 - s);
        }
        for (int s = 0; s < 4; s++) {
            x.sheet(s, 8, 40);
            x.write(s, 39, 50 + s);
            x.write(s, 0, 40 + s);
        }
        x.image();
        for (int i = 0; i < 30; i++) {
            x.feed(i < 2 ? i == 0 ? 0x62757379 : 0x20352020 : 0x20202020, 4);
        }
        return x;
    }
}
