/** Counts answers that are not as due. */
final class Check {
    static final int BEYOND = -1000001;
    static final int FULL = -1000002;
    static final int KIND = -1000003;
    static final int NONE = -1000004;
    static final int STATE = -1000005;
    static final int MISSING = -1000006;
    static final int SIZE = -1000007;

    private final String name;
    private int asked;
    private int wrong;

    Check(String name) {
        this.name = name;
    }

    boolean due(String call, long got, long want) {
        asked++;
        if (got != want) {
            wrong++;
            System.out.println(name + ": " + call + " answered " + got + ", due is " + want);
        }
        return got == want;
    }

    void finish() {
        System.out.println(name + ": " + asked + " answers, " + wrong + " not as due");
        if (wrong > 0 || asked == 0) {
            System.exit(1);
        }
    }

    /** Feeds a text; its characters are bytes. */
    static void feed(PageTurns x, String text) {
        int i = 0;
        while (i < text.length()) {
            int n = Math.min(4, text.length() - i);
            int bytes = 0;
            for (int k = 0; k < n; k++) {
                bytes = bytes << 8 | text.charAt(i + k) & 255;
            }
            x.feed(bytes, n);
            i += n;
        }
    }

    static int read(PageTurns x, int part, String text) {
        feed(x, text);
        return x.read(part);
    }

    /** A new object with one text in part 0. */
    static PageTurns with(String text) {
        PageTurns x = new PageTurns();
        int answer = read(x, 0, text);
        if (answer < 0) {
            throw new IllegalStateException("the test's own text is wrong: " + text + ": " + answer);
        }
        return x;
    }
}
