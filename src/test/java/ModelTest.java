import java.util.ArrayList;
import java.util.List;
import java.util.Random;

/** Long runs of calls of all kinds, each answer held against the model's. */
public final class ModelTest {
    private static final String[] NAMES = {"set", "rule", "feed", "wipe", "read", "bar", "change", "cut",
        "free", "room", "line", "page", "best", "laid", "ends", "stop", "hearts", "folds", "needs",
        "together", "all", "lay", "breakOf", "clear", "price", "judge", "hold", "as", "sheet", "write",
        "copy", "rooms", "pages", "image", "undo", "tear", "count", "status"};
    private static final int[] WEIGHTS = {12, 8, 3, 1, 4, 6, 8, 2, 6, 4, 8, 6, 12, 14, 8, 6, 5, 4, 5, 5, 6,
        9, 10, 1, 3, 6, 6, 8, 4, 8, 4, 3, 5, 2, 2, 1, 3, 4};

    private final Random r;
    private final Check check;
    private final int mostBars;
    private final PageTurns x = new PageTurns();
    private final Model m = new Model();
    private final List<String> trace = new ArrayList<>();

    private ModelTest(long seed, Check check, int mostBars) {
        this.r = new Random(seed);
        this.check = check;
        this.mostBars = mostBars;
    }

    public static void main(String[] args) {
        Check check = new Check("ModelTest");
        int runs = args.length > 0 ? Integer.parseInt(args[0]) : 120;
        int first = args.length > 1 ? Integer.parseInt(args[1]) : 1;
        for (int seed = first; seed < first + runs; seed++) {
            int mostBars = seed % 20 == 0 ? 40 : seed % 3 == 0 ? 24 : 12;
            new ModelTest(seed, check, mostBars).run(seed, mostBars > 30 ? 300 : 512);
        }
        check.finish();
    }

    private void run(int seed, int calls) {
        boolean isGood = begin();
        while (isGood && trace.size() < calls) {
            isGood = step();
        }
        if (!isGood) {
            report(seed);
        }
    }

    /** Parts and rules for which there are some pages, turns and stops. */
    private boolean begin() {
        boolean isGood = true;
        for (int p = 0; p < 4; p++) {
            int want = p == 3 && r.nextBoolean() ? 0 : 1 + r.nextInt(mostBars);
            for (int tries = 0; tries < 6 && bars(p) < want; tries++) {
                isGood &= feedText(goodText(want - bars(p))) && both("read", p);
            }
            isGood &= both("set", p, 0, 60 + 30 * r.nextInt(6));
            isGood &= r.nextBoolean() || both("set", p, 2, (p + 1 + r.nextInt(3)) % 4);
        }
        isGood &= r.nextInt(4) == 0 || both("rule", 0, 20 + r.nextInt(60));
        isGood &= r.nextInt(4) == 0 || both("rule", 1, 1 + r.nextInt(2));
        isGood &= r.nextInt(4) == 0 || both("rule", 2, 200 + r.nextInt(500));
        isGood &= r.nextInt(4) == 0 || both("rule", 3, r.nextInt(12));
        isGood &= r.nextInt(4) == 0 || both("rule", 4, r.nextInt(60));
        return isGood && both("sheet", 0, 8, 1 + r.nextInt(8)) && both("sheet", 1, 8, 6);
    }

    private String goodText(int most) {
        StringBuilder s = new StringBuilder();
        int left = most;
        while (left > 0 && s.length() < 60) {
            int often = r.nextInt(3) == 0 ? 1 : 1 + r.nextInt(Math.min(9, left));
            String group = often == 1 ? bar() : left >= 2 * often ? bar() + " " + bar() : bar();
            left -= often == 1 ? 1 : left >= 2 * often ? 2 * often : often;
            s.append(often == 1 ? group + " " : often + "(" + group + ")" + blanks());
        }
        return s.toString();
    }

    private void report(int seed) {
        System.out.println("seed " + seed + ":");
        for (String s : trace) {
            System.out.println("  " + s);
        }
    }

    private int choose() {
        int sum = 0;
        for (int w : WEIGHTS) {
            sum += w;
        }
        int k = r.nextInt(sum);
        int i = 0;
        while (k >= WEIGHTS[i]) {
            k -= WEIGHTS[i];
            i++;
        }
        return i;
    }

    private boolean step() {
        String name = NAMES[choose()];
        if (name.equals("read") && r.nextInt(4) != 0 && !(both("wipe") && feedText(text()))) {
            return false;
        }
        if (name.equals("pages") && r.nextInt(3) != 0) {
            return readBack();
        }
        if (name.equals("judge") && r.nextInt(3) == 0) {
            return breakAsLaid();
        }
        return both(name, arguments(name));
    }

    /** A sheet with the last bars of the pages, now and then with one that is wrong. */
    private boolean readBack() {
        int p = r.nextInt(3);
        Model.Laying l = m.laying(p);
        int n = l == null ? 3 : l.pages.size();
        int given = Math.max(0, r.nextInt(4) == 0 ? n - 1 + r.nextInt(3) : n);
        boolean isGood = both("sheet", 2, 8 << r.nextInt(3), given);
        for (int i = 0; i < Math.min(n, given) && l != null; i++) {
            int wide = r.nextInt(9) == 0 ? 1 << 8 + r.nextInt(20) : 0;
            int slip = r.nextInt(12) == 0 ? 1 : 0;
            isGood &= both("write", 2, i, l.pages.get(i).last + slip + wide);
        }
        return isGood && both("pages", 2, p);
    }

    /** Breaks at ends of lines or near them. */
    private boolean breakAsLaid() {
        int p = r.nextInt(3);
        Model.Laying l = m.laying(p);
        boolean isGood = both("clear", p);
        for (int i = 0; l != null && i < l.pages.size(); i++) {
            for (int end : l.pages.get(i).ends) {
                int bar = r.nextInt(20) == 0 ? end - 1 + r.nextInt(3) : end;
                isGood &= r.nextInt(15) == 0 || both("lay", r.nextInt(4) == 0 ? r.nextInt(7) : r.nextInt(3), p, bar);
            }
        }
        return isGood && both("judge", p) && both("price", p);
    }

    /** A number mostly in a range, now and then just or far out of it. */
    private int near(int least, int most) {
        int k = r.nextInt(80);
        if (k == 0) {
            return least - 1;
        }
        if (k == 1) {
            return most + 1;
        }
        if (k == 2) {
            int[] far = {Integer.MIN_VALUE, Integer.MAX_VALUE, -1, 0, 1 << 20, r.nextInt()};
            return far[r.nextInt(far.length)];
        }
        if (k == 3) {
            return least;
        }
        return k == 4 ? most : least + r.nextInt(most - least + 1);
    }

    private int bars(int part) {
        return part >= 0 && part <= 3 ? m.now.parts[part].bars.size() : 1;
    }

    private int aBar(int part) {
        return near(0, Math.max(0, bars(part) - 1));
    }

    private int part() {
        return r.nextInt(3) == 0 ? near(0, 3) : near(0, 1);
    }

    private int[] arguments(String name) {
        int p = part();
        int b = aBar(p);
        switch (name) {
            case "set": {
                int what = near(0, 3);
                int v = what == 0 ? near(30, 240) : what == 1 ? near(0, 8) : what == 2 ? near(-1, 3)
                        : r.nextInt(3) == 0 ? near(0, 1023) : r.nextInt(8);
                return new int[] {p, what, v};
            }
            case "rule": {
                int what = near(0, 4);
                int v = what == 0 ? near(20, r.nextBoolean() ? 200 : 70) : what == 1 ? near(1, r.nextBoolean() ? 6 : 2)
                        : what == 2 ? near(0, r.nextBoolean() ? 999 : 400) : what == 3 ? near(0, 99)
                        : near(0, r.nextBoolean() ? 999 : 60);
                return new int[] {what, v};
            }
            case "feed":
                return new int[] {r.nextInt(), near(1, 4)};
            case "read":
            case "hearts":
            case "folds":
            case "needs":
            case "clear":
            case "price":
            case "judge":
                return new int[] {p};
            case "bar":
                return new int[] {p, b, near(0, 3)};
            case "change": {
                int what = r.nextInt(8) == 0 ? near(0, 4) : r.nextBoolean() ? 1 : 3;
                return new int[] {p, b, what, what == 1 ? near(0, 2) : near(0, 7)};
            }
            case "cut":
                return new int[] {p, b, near(1, 3)};
            case "free":
                return new int[] {p, b, near(0, 1)};
            case "room":
                return new int[] {p, b, near(0, 2)};
            case "line":
                return new int[] {p, b, r.nextInt(5) == 0 ? aBar(p) : b + r.nextInt(5), near(0, 2)};
            case "page":
                return new int[] {p, b, r.nextInt(3) == 0 ? aBar(p) : b + r.nextInt(12), near(0, 2)};
            case "best":
                return new int[] {p, near(0, 4)};
            case "laid":
                return new int[] {p, near(0, 5), near(0, 5)};
            case "ends":
                return new int[] {p, near(0, 9)};
            case "stop":
                return new int[] {p, near(0, 2)};
            default:
                return moreArguments(name, p, b);
        }
    }

    private int[] moreArguments(String name, int p, int b) {
        int breaks = Math.max(0, m.now.breaks.size() - 1);
        switch (name) {
            case "together":
                return new int[] {p, near(0, 3)};
            case "all":
                return new int[] {near(0, 3)};
            case "lay":
                return new int[] {near(0, 6), p, b};
            case "breakOf":
                return new int[] {near(0, breaks), near(0, 4)};
            case "hold":
                return new int[] {near(0, 9), near(-1, breaks)};
            case "as":
                return new int[] {near(0, 9), near(0, 6)};
            case "sheet": {
                int[] bits = {0, 8, 8, 16, 32, 7, 64, -8};
                return new int[] {near(0, 3), bits[r.nextInt(8)], r.nextInt(3) == 0 ? near(0, 40) : near(0, 6)};
            }
            case "write": {
                int wide = r.nextInt(4) == 0 ? r.nextInt() << 8 : 0;
                return new int[] {near(0, 3), near(0, 8), near(0, 62) + wide};
            }
            case "copy":
                return new int[] {near(0, 3), near(0, 5), near(0, 3), near(0, 5), near(0, 5)};
            case "rooms":
            case "pages":
                return new int[] {near(0, 3), p};
            case "count":
                return new int[] {near(0, 3)};
            case "status":
                return new int[] {near(-1, 6)};
            default:
                return new int[0];
        }
    }

    private String bar() {
        StringBuilder s = new StringBuilder();
        s.append(new String[] {"busy", "busy", "half", "free"}[r.nextInt(4)]).append(blanks());
        s.append(r.nextInt(20) == 0 ? 1 + r.nextInt(60) : 1 + r.nextInt(25));
        if (r.nextInt(2) == 0) {
            s.append(blanks()).append("beats").append(blanks()).append(1 + r.nextInt(12));
        }
        for (int k = r.nextInt(8); k >= 5; k--) {
            s.append(' ').append(new String[] {"keep", "letter", "wish"}[r.nextInt(3)]);
        }
        return s.toString();
    }

    private String blanks() {
        return r.nextInt(10) == 0 ? "  " : r.nextInt(4) == 0 ? "" : " ";
    }

    private String group(int depth) {
        StringBuilder s = new StringBuilder();
        int items = 1 + r.nextInt(3);
        for (int i = 0; i < items; i++) {
            s.append(blanks());
            if (depth < 5 && r.nextInt(3) == 0) {
                s.append(r.nextInt(30) == 0 ? r.nextInt(12) : 1 + r.nextInt(4));
                s.append(blanks()).append('(').append(group(depth + 1)).append(')');
            } else {
                s.append(bar());
            }
        }
        return s.toString();
    }

    /** Half of them good, the others cut off anywhere or with a wrong byte. */
    private String text() {
        int k = r.nextInt(8);
        StringBuilder s = new StringBuilder(k == 0 ? group(0) : goodText(1 + r.nextInt(mostBars)));
        if (k == 1 || s.length() > 120) {
            s.setLength(r.nextInt(Math.min(120, s.length()) + 1));
        }
        if (k == 2 || k == 3) {
            char[] odd = {'(', ')', ' ', '0', '9', 'a', 'B', '-', 0, 255, '\n', 'z', '{', '`', '/', ':'};
            s.setCharAt(r.nextInt(s.length()), odd[r.nextInt(odd.length)]);
        }
        return s.toString();
    }

    private boolean feedText(String text) {
        boolean isGood = true;
        int i = 0;
        while (i < text.length()) {
            int n = Math.min(1 + r.nextInt(8), text.length() - i);
            n = Math.min(n, 4);
            int bytes = r.nextInt();
            for (int k = 0; k < n; k++) {
                bytes = bytes << 8 | text.charAt(i + k);
            }
            isGood &= both("feed", bytes, n);
            i += n;
        }
        return isGood;
    }

    private boolean both(String name, int... a) {
        long want = ofModel(name, a);
        long got = ofClass(name, a);
        String call = name + java.util.Arrays.toString(a);
        trace.add(call + " " + got);
        return check.due(call, got, want);
    }

    private int ofClass(String name, int[] a) {
        switch (name) {
            case "set": return x.set(a[0], a[1], a[2]);
            case "rule": return x.rule(a[0], a[1]);
            case "feed": return x.feed(a[0], a[1]);
            case "wipe": return x.wipe();
            case "read": return x.read(a[0]);
            case "bar": return x.bar(a[0], a[1], a[2]);
            case "change": return x.change(a[0], a[1], a[2], a[3]);
            case "cut": return x.cut(a[0], a[1], a[2]);
            case "free": return x.free(a[0], a[1], a[2]);
            case "room": return x.room(a[0], a[1], a[2]);
            case "line": return x.line(a[0], a[1], a[2], a[3]);
            case "page": return x.page(a[0], a[1], a[2], a[3]);
            case "best": return x.best(a[0], a[1]);
            case "laid": return x.laid(a[0], a[1], a[2]);
            case "ends": return x.ends(a[0], a[1]);
            case "stop": return x.stop(a[0], a[1]);
            case "hearts": return x.hearts(a[0]);
            case "folds": return x.folds(a[0]);
            case "needs": return x.needs(a[0]);
            case "together": return x.together(a[0], a[1]);
            case "all": return x.all(a[0]);
            case "lay": return x.lay(a[0], a[1], a[2]);
            case "breakOf": return x.breakOf(a[0], a[1]);
            case "clear": return x.clear(a[0]);
            case "price": return x.price(a[0]);
            case "judge": return x.judge(a[0]);
            case "hold": return x.hold(a[0], a[1]);
            case "as": return x.as(a[0], a[1]);
            case "sheet": return x.sheet(a[0], a[1], a[2]);
            case "write": return x.write(a[0], a[1], a[2]);
            case "copy": return x.copy(a[0], a[1], a[2], a[3], a[4]);
            case "rooms": return x.rooms(a[0], a[1]);
            case "pages": return x.pages(a[0], a[1]);
            case "image": return x.image();
            case "undo": return x.undo();
            case "tear": return x.tear();
            case "count": return x.count(a[0]);
            case "status": return x.status(a[0]);
            default: throw new IllegalArgumentException(name);
        }
    }

    private int ofModel(String name, int[] a) {
        switch (name) {
            case "set": return m.set(a[0], a[1], a[2]);
            case "rule": return m.rule(a[0], a[1]);
            case "feed": return m.feed(a[0], a[1]);
            case "wipe": return m.wipe();
            case "read": return m.read(a[0]);
            case "bar": return m.bar(a[0], a[1], a[2]);
            case "change": return m.change(a[0], a[1], a[2], a[3]);
            case "cut": return m.cut(a[0], a[1], a[2]);
            case "free": return m.free(a[0], a[1], a[2]);
            case "room": return m.room(a[0], a[1], a[2]);
            case "line": return m.line(a[0], a[1], a[2], a[3]);
            case "page": return m.page(a[0], a[1], a[2], a[3]);
            case "best": return m.best(a[0], a[1]);
            case "laid": return m.laid(a[0], a[1], a[2]);
            case "ends": return m.ends(a[0], a[1]);
            case "stop": return m.stop(a[0], a[1]);
            case "hearts": return m.hearts(a[0]);
            case "folds": return m.folds(a[0]);
            case "needs": return m.needs(a[0]);
            case "together": return m.together(a[0], a[1]);
            case "all": return m.all(a[0]);
            case "lay": return m.lay(a[0], a[1], a[2]);
            case "breakOf": return m.breakOf(a[0], a[1]);
            case "clear": return m.clear(a[0]);
            case "price": return m.price(a[0]);
            case "judge": return m.judge(a[0]);
            case "hold": return m.hold(a[0], a[1]);
            case "as": return m.as(a[0], a[1]);
            case "sheet": return m.sheet(a[0], a[1], a[2]);
            case "write": return m.write(a[0], a[1], a[2]);
            case "copy": return m.copy(a[0], a[1], a[2], a[3], a[4]);
            case "rooms": return m.rooms(a[0], a[1]);
            case "pages": return m.pages(a[0], a[1]);
            case "image": return m.image();
            case "undo": return m.undo();
            case "tear": return m.tear();
            case "count": return m.count(a[0]);
            case "status": return m.status(a[0]);
            default: throw new IllegalArgumentException(name);
        }
    }
}
