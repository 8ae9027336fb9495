import java.util.ArrayList;
import java.util.Arrays;
import java.util.HashMap;
import java.util.List;
import java.util.Map;

/**
 * The document once more, in its plainest form and without regard to speed:
 * what the class answers is held against it. It shares no code with the class.
 */
final class Model {
    static final class Bar implements Cloneable {
        int room;
        int hand;
        int beats;
        int marks;

        Bar copy() {
            Bar b = new Bar();
            b.room = room;
            b.hand = hand;
            b.beats = beats;
            b.marks = marks;
            return b;
        }

        boolean keep() {
            return marks % 2 == 1;
        }

        boolean letter() {
            return marks / 2 % 2 == 1;
        }

        boolean wish() {
            return marks / 4 == 1;
        }
    }

    static final class Part {
        int speed = 60;
        int hearts = 0;
        int neighbour = -1;
        int folds = 0;
        List<Bar> bars = new ArrayList<>();

        Part copy() {
            Part p = new Part();
            p.speed = speed;
            p.hearts = hearts;
            p.neighbour = neighbour;
            p.folds = folds;
            for (Bar b : bars) {
                p.bars.add(b.copy());
            }
            return p;
        }
    }

    static final class Break {
        final int kind;
        final int part;
        final int bar;

        Break(int kind, int part, int bar) {
            this.kind = kind;
            this.part = part;
            this.bar = bar;
        }
    }

    /** What an image keeps. */
    static final class State {
        Part[] parts = {new Part(), new Part(), new Part(), new Part()};
        int width = 60;
        int lines = 3;
        int need = 150;
        int kept = 0;
        int paper = 50;
        List<Break> breaks = new ArrayList<>();
        Break[] spots = new Break[10];

        State copy() {
            State s = new State();
            for (int p = 0; p < 4; p++) {
                s.parts[p] = parts[p].copy();
            }
            s.width = width;
            s.lines = lines;
            s.need = need;
            s.kept = kept;
            s.paper = paper;
            s.breaks = new ArrayList<>(breaks);
            s.spots = spots.clone();
            return s;
        }
    }

    static final class Page {
        int first;
        int last;
        int size;
        int cost;
        List<Integer> ends;
    }

    static final class Laying {
        int stops;
        int cost;
        List<Page> pages = new ArrayList<>();
    }

    State now = new State();
    State image = null;
    StringBuilder tape = new StringBuilder();
    int[] sheetBits = new int[4];
    long[][] sheets = new long[4][];
    Map<Integer, Integer> told = new HashMap<>();

    private int tell(int finding) {
        told.merge(finding, 1, Integer::sum);
        return finding;
    }

    // ---- parts, texts

    int set(int part, int what, int v) {
        if (part < 0 || part > 3) {
            return tell(Check.BEYOND);
        }
        Part p = now.parts[part];
        int was;
        if (what == 0 && v >= 30 && v <= 240) {
            was = p.speed;
            p.speed = v;
        } else if (what == 1 && v >= 0 && v <= 8) {
            was = p.hearts;
            p.hearts = v;
        } else if (what == 2 && v >= -1 && v <= 3 && v != part) {
            was = p.neighbour;
            p.neighbour = v;
        } else if (what == 3 && v >= 0 && v < 1024) {
            was = p.folds;
            p.folds = v;
        } else {
            return tell(Check.BEYOND);
        }
        return was;
    }

    int rule(int what, int v) {
        int was;
        if (what == 0 && v >= 20 && v <= 200) {
            was = now.width;
            now.width = v;
        } else if (what == 1 && v >= 1 && v <= 6) {
            was = now.lines;
            now.lines = v;
        } else if (what == 2 && v >= 0 && v <= 999) {
            was = now.need;
            now.need = v;
        } else if (what == 3 && v >= 0 && v <= 99) {
            was = now.kept;
            now.kept = v;
        } else if (what == 4 && v >= 0 && v <= 999) {
            was = now.paper;
            now.paper = v;
        } else {
            return tell(Check.BEYOND);
        }
        return was;
    }

    int feed(int bytes, int n) {
        if (n < 1 || n > 4) {
            return tell(Check.BEYOND);
        }
        if (tape.length() + n > 120) {
            return tell(Check.FULL);
        }
        byte[] four = {(byte) (bytes >>> 24), (byte) (bytes >>> 16), (byte) (bytes >>> 8), (byte) bytes};
        for (int k = 4 - n; k < 4; k++) {
            tape.append((char) (four[k] & 255));
        }
        return tape.length();
    }

    int wipe() {
        int had = tape.length();
        tape.setLength(0);
        return had;
    }

    int read(int part) {
        if (noPart(part)) {
            return tell(Check.BEYOND);
        }
        String text = tape.toString();
        tape.setLength(0);
        List<Bar> bars;
        try {
            bars = new Text(text).whole();
        } catch (Fault f) {
            return -1 - f.place;
        }
        List<Bar> own = now.parts[part].bars;
        if (own.size() + bars.size() > 40) {
            return tell(Check.FULL);
        }
        own.addAll(bars);
        return own.size();
    }

    static final class Fault extends Exception {
        private static final long serialVersionUID = 1L;
        final int place;

        Fault(int place) {
            this.place = place;
        }
    }

    /** Reads from the bytes themselves, level by level. */
    static final class Text {
        final String s;
        int at = 0;

        Text(String s) {
            this.s = s;
        }

        void skip() {
            while (at < s.length() && s.charAt(at) == 32) {
                at++;
            }
        }

        String peek() {
            skip();
            if (at == s.length()) {
                return "";
            }
            String rest = s.substring(at);
            java.util.regex.Matcher m = java.util.regex.Pattern.compile("^([a-z]+|[0-9]+|.)",
                    java.util.regex.Pattern.DOTALL).matcher(rest);
            m.find();
            return m.group(1);
        }

        List<Bar> whole() throws Fault {
            List<Bar> bars = text(0);
            if (!peek().isEmpty()) {
                throw new Fault(at);
            }
            return bars;
        }

        List<Bar> text(int open) throws Fault {
            List<Bar> bars = new ArrayList<>();
            do {
                bars.addAll(item(open));
            } while (!peek().isEmpty() && !peek().equals(")"));
            return bars;
        }

        List<Bar> item(int open) throws Fault {
            String t = peek();
            if (!t.matches("[0-9]+")) {
                return List.of(bar());
            }
            int often = number(1, 9);
            if (!peek().equals("(") || open == 4) {
                throw new Fault(at);
            }
            at++;
            List<Bar> inner = text(open + 1);
            if (!peek().equals(")")) {
                throw new Fault(at);
            }
            at++;
            List<Bar> bars = new ArrayList<>();
            for (int k = 0; k < often; k++) {
                for (Bar b : inner) {
                    bars.add(b.copy());
                }
            }
            return bars;
        }

        int number(int least, int most) throws Fault {
            String t = peek();
            if (!t.matches("[0-9]+") || new java.math.BigInteger(t).bitLength() > 20) {
                throw new Fault(at);
            }
            int v = Integer.parseInt(t);
            if (v < least || v > most) {
                throw new Fault(at);
            }
            at += t.length();
            return v;
        }

        Bar bar() throws Fault {
            int hand = Arrays.asList("busy", "half", "free").indexOf(peek());
            if (hand < 0) {
                throw new Fault(at);
            }
            at += 4;
            Bar b = new Bar();
            b.hand = hand;
            b.room = number(1, 60);
            b.beats = 4;
            if (peek().equals("beats")) {
                at += 5;
                b.beats = number(1, 12);
            }
            int k = Arrays.asList("keep", "letter", "wish").indexOf(peek());
            while (k >= 0) {
                at += peek().length();
                b.marks |= 1 << k;
                k = Arrays.asList("keep", "letter", "wish").indexOf(peek());
            }
            return b;
        }
    }

    private static boolean noPart(int part) {
        return part < 0 || part > 3;
    }

    private boolean noBar(int part, int bar) {
        return noPart(part) || bar < 0 || bar >= now.parts[part].bars.size();
    }

    int bar(int part, int bar, int what) {
        if (noBar(part, bar) || what < 0 || what > 3) {
            return tell(Check.BEYOND);
        }
        Bar b = now.parts[part].bars.get(bar);
        return new int[] {b.room, b.hand, b.beats, b.marks}[what];
    }

    int change(int part, int bar, int what, int v) {
        if (noBar(part, bar)) {
            return tell(Check.BEYOND);
        }
        Bar b = now.parts[part].bars.get(bar);
        int was;
        if (what == 1 && v >= 0 && v <= 2) {
            was = b.hand;
            b.hand = v;
        } else if (what == 3 && v >= 0 && v <= 7) {
            was = b.marks;
            b.marks = v;
        } else {
            return tell(Check.BEYOND);
        }
        return was;
    }

    int cut(int part, int bar, int n) {
        if (noBar(part, bar) || n < 1 || (long) bar + n > now.parts[part].bars.size()) {
            return tell(Check.BEYOND);
        }
        for (Break k : now.breaks) {
            if (k.part == part) {
                return tell(Check.STATE);
            }
        }
        now.parts[part].bars.subList(bar, bar + n).clear();
        return now.parts[part].bars.size();
    }

    int free(int part, int bar, int how) {
        if (noBar(part, bar) || how < 0 || how > 1) {
            return tell(Check.BEYOND);
        }
        return freeBehind(part, bar, how == 0 ? 0 : now.parts[part].hearts);
    }

    private int freeBehind(int part, int bar, int known) {
        List<Bar> bars = now.parts[part].bars;
        int[] hands = new int[bars.size()];
        for (int b = 0; b < hands.length; b++) {
            hands[b] = b > bar && b <= bar + known ? 2 : bars.get(b).hand;
        }
        int beats = 0;
        int back = bar;
        while (back >= 0 && hands[back] == 2) {
            beats += bars.get(back--).beats;
        }
        if (back >= 0 && hands[back] == 1) {
            beats += bars.get(back).beats / 2;
        }
        int on = bar + 1;
        while (on < hands.length && hands[on] == 2) {
            beats += bars.get(on++).beats;
        }
        if (on < hands.length && hands[on] == 1) {
            beats += bars.get(on).beats / 2;
        }
        return beats * 6000 / now.parts[part].speed;
    }

    // ---- lines, pages

    private static boolean noSize(int size) {
        return size < 0 || size > 2;
    }

    private int roomOf(int part, int bar, int size) {
        int tenths = now.parts[part].bars.get(bar).room * (10 - 2 * size);
        return tenths % 10 == 0 ? tenths / 10 : tenths / 10 + 1;
    }

    int room(int part, int bar, int size) {
        return noBar(part, bar) || noSize(size) ? tell(Check.BEYOND) : roomOf(part, bar, size);
    }

    /** The cost of a line, or KIND, or STATE. */
    int lineCost(int part, int from, int to, int size) {
        List<Bar> bars = now.parts[part].bars;
        int room = 0;
        int letters = 0;
        for (int b = from; b <= to; b++) {
            room += roomOf(part, b, size);
            if (b != from && bars.get(b).letter()) {
                letters++;
            }
        }
        if (room > now.width) {
            return Check.KIND;
        }
        boolean isLast = to == bars.size() - 1;
        if (bars.get(to).keep() && !isLast) {
            return Check.STATE;
        }
        int more = now.width - room;
        return (isLast ? 0 : more * more / 10) + 20 * size * size - (bars.get(to).wish() ? 5 : 0)
                + now.kept * letters;
    }

    int line(int part, int from, int to, int size) {
        if (noBar(part, from) || noBar(part, to) || from > to || noSize(size)) {
            return tell(Check.BEYOND);
        }
        int cost = lineCost(part, from, to, size);
        return cost < -1000000 ? tell(cost) : cost;
    }

    private final Map<List<Integer>, Page> bestPages = new HashMap<>();
    private String shape = "";

    /** Forgets what was found for bars and rules that are others now. */
    private void forgetOldPages(int part) {
        StringBuilder s = new StringBuilder();
        s.append(part + " " + now.width + " " + now.lines + " " + now.kept);
        for (Bar b : now.parts[part].bars) {
            s.append(" " + b.room + "," + b.marks);
        }
        if (!shape.equals(s.toString())) {
            bestPages.clear();
            shape = s.toString();
        }
    }

    /** The best page of so many lines at most, of these the first; null if there is none. */
    private Page bestPage(int part, int from, int to, int size, int lines) {
        if (lines == 0) {
            return null;
        }
        List<Integer> key = List.of(part, from, to, size, lines);
        if (bestPages.containsKey(key)) {
            return bestPages.get(key);
        }
        Page best = null;
        for (int end = from; end <= to; end++) {
            int cost = lineCost(part, from, end, size);
            if (cost == Check.KIND) {
                break;
            }
            if (cost == Check.STATE) {
                continue;
            }
            Page p = new Page();
            p.first = from;
            p.last = to;
            p.size = size;
            p.cost = cost;
            p.ends = new ArrayList<>(List.of(end));
            if (end < to) {
                Page rest = bestPage(part, end + 1, to, size, lines - 1);
                if (rest == null) {
                    continue;
                }
                p.cost += rest.cost;
                p.ends.addAll(rest.ends);
            }
            if (best == null || p.cost < best.cost || p.cost == best.cost && linesAhead(p, best)) {
                best = p;
            }
        }
        bestPages.put(key, best);
        return best;
    }

    /** Line by line, that with fewer bars. */
    static boolean linesAhead(Page a, Page b) {
        for (int i = 0; i < Math.min(a.ends.size(), b.ends.size()); i++) {
            if (!a.ends.get(i).equals(b.ends.get(i))) {
                return a.ends.get(i) < b.ends.get(i);
            }
        }
        return false;
    }

    int page(int part, int from, int to, int size) {
        if (noBar(part, from) || noBar(part, to) || from > to || noSize(size)) {
            return tell(Check.BEYOND);
        }
        forgetOldPages(part);
        Page p = bestPage(part, from, to, size, now.lines);
        return p == null ? tell(Check.NONE) : p.cost;
    }

    /** 0, 1 or 2, as laid() tells it. */
    int turnBehind(int part, int number, int last) {
        Part p = now.parts[part];
        if (last == p.bars.size() - 1 || number % 2 == 1 || number <= 9 && (p.folds >> number) % 2 == 1) {
            return 0;
        }
        boolean safe = freeBehind(part, last, p.hearts) >= now.need;
        if (p.neighbour >= 0 && last < now.parts[p.neighbour].bars.size()) {
            safe = safe || freeBehind(p.neighbour, last, 0) >= now.need;
        }
        return safe ? 1 : 2;
    }

    /** Less than 0 if one laying is ahead of another. */
    static int compare(Laying a, Laying b) {
        if (a.stops != b.stops) {
            return a.stops - b.stops;
        }
        if (a.cost != b.cost) {
            return a.cost - b.cost;
        }
        if (a.pages.size() != b.pages.size()) {
            return a.pages.size() - b.pages.size();
        }
        for (int i = 0; i < a.pages.size(); i++) {
            Page p = a.pages.get(i);
            Page q = b.pages.get(i);
            int bars = (p.last - p.first) - (q.last - q.first);
            if (bars != 0) {
                return bars;
            }
            if (p.size != q.size) {
                return p.size - q.size;
            }
            if (linesAhead(p, q)) {
                return -1;
            }
            if (linesAhead(q, p)) {
                return 1;
            }
        }
        return 0;
    }

    private final Map<List<Integer>, Laying> bestFrom = new HashMap<>();

    Laying laying(int part) {
        forgetOldPages(part);
        bestFrom.clear();
        return now.parts[part].bars.isEmpty() ? null : bestFrom(part, 0, 0);
    }

    private Laying bestFrom(int part, int from, int number) {
        if (from == now.parts[part].bars.size()) {
            return new Laying();
        }
        List<Integer> key = List.of(from, number);
        if (bestFrom.containsKey(key)) {
            return bestFrom.get(key);
        }
        Laying best = null;
        for (int to = from; to < now.parts[part].bars.size(); to++) {
            for (int size = 0; size <= 2; size++) {
                Page p = bestPage(part, from, to, size, now.lines);
                Laying rest = p == null ? null : bestFrom(part, to + 1, number + 1);
                if (rest == null) {
                    continue;
                }
                Laying l = new Laying();
                l.stops = rest.stops + (turnBehind(part, number, to) == 2 ? 1 : 0);
                l.cost = rest.cost + p.cost + now.paper;
                l.pages.add(p);
                l.pages.addAll(rest.pages);
                if (best == null || compare(l, best) < 0) {
                    best = l;
                }
            }
        }
        bestFrom.put(key, best);
        return best;
    }

    int best(int part, int what) {
        if (noPart(part) || what < 0 || what > 4) {
            return tell(Check.BEYOND);
        }
        Laying l = laying(part);
        if (l == null) {
            return tell(Check.NONE);
        }
        int lines = 0;
        int turns = 0;
        for (int i = 0; i < l.pages.size(); i++) {
            lines += l.pages.get(i).ends.size();
            turns += turnBehind(part, i, l.pages.get(i).last) > 0 ? 1 : 0;
        }
        return new int[] {l.stops, l.cost, l.pages.size(), lines, turns}[what];
    }

    int laid(int part, int i, int what) {
        if (noPart(part) || i < 0 || what < 0 || what > 5) {
            return tell(Check.BEYOND);
        }
        Laying l = laying(part);
        if (l == null || i >= l.pages.size()) {
            return tell(Check.NONE);
        }
        Page p = l.pages.get(i);
        return new int[] {p.first, p.last, p.size, p.ends.size(), p.cost, turnBehind(part, i, p.last)}[what];
    }

    int ends(int part, int i) {
        if (noPart(part) || i < 0) {
            return tell(Check.BEYOND);
        }
        Laying l = laying(part);
        List<Integer> ends = new ArrayList<>();
        if (l != null) {
            for (Page p : l.pages) {
                ends.addAll(p.ends);
            }
        }
        return i < ends.size() ? ends.get(i) : tell(Check.NONE);
    }

    private List<Integer> turns(int part, int least) {
        List<Integer> turns = new ArrayList<>();
        Laying l = laying(part);
        for (int i = 0; l != null && i < l.pages.size(); i++) {
            if (turnBehind(part, i, l.pages.get(i).last) >= least) {
                turns.add(l.pages.get(i).last);
            }
        }
        return turns;
    }

    int stop(int part, int i) {
        if (noPart(part) || i < 0) {
            return tell(Check.BEYOND);
        }
        List<Integer> stops = turns(part, 2);
        return i < stops.size() ? stops.get(i) : tell(Check.NONE);
    }

    // ---- what would mend it

    int hearts(int part) {
        if (noPart(part)) {
            return tell(Check.BEYOND);
        }
        int was = now.parts[part].hearts;
        int found = Check.NONE;
        for (int h = 8; h >= 0; h--) {
            now.parts[part].hearts = h;
            Laying l = laying(part);
            if (l != null && l.stops == 0) {
                found = h;
            }
        }
        now.parts[part].hearts = was;
        return found < 0 ? tell(found) : found;
    }

    int folds(int part) {
        if (noPart(part)) {
            return tell(Check.BEYOND);
        }
        int was = now.parts[part].folds;
        int found = Check.NONE;
        for (int set = 0; set < 1024; set++) {
            if ((set & 0b1010101010) != 0 || found >= 0 && Integer.bitCount(set) >= Integer.bitCount(found)) {
                continue;
            }
            now.parts[part].folds = set;
            Laying l = laying(part);
            if (l != null && l.stops == 0) {
                found = set;
            }
        }
        now.parts[part].folds = was;
        return found < 0 ? tell(found) : found;
    }

    int needs(int part) {
        if (noPart(part)) {
            return tell(Check.BEYOND);
        }
        int was = now.need;
        int found = Check.NONE;
        int low = 1;
        int high = 999;
        while (low <= high && laying(part) != null) {
            now.need = (low + high) / 2;
            if (laying(part).stops > 0) {
                found = now.need;
                high = now.need - 1;
            } else {
                low = now.need + 1;
            }
        }
        now.need = was;
        return found < 0 ? tell(found) : found;
    }

    int together(int a, int b) {
        if (noPart(a) || noPart(b) || a == b) {
            return tell(Check.BEYOND);
        }
        if (laying(a) == null || laying(b) == null) {
            return tell(Check.NONE);
        }
        List<Integer> both = turns(a, 1);
        both.retainAll(turns(b, 1));
        return both.size();
    }

    int all(int what) {
        if (what < 0 || what > 3) {
            return tell(Check.BEYOND);
        }
        int stops = 0;
        int costs = 0;
        int[] parts = new int[40];
        for (int p = 0; p < 4; p++) {
            Laying l = laying(p);
            if (l != null) {
                stops += l.stops;
                costs += l.cost;
                for (int bar : turns(p, 1)) {
                    parts[bar]++;
                }
            }
        }
        int two = 0;
        int most = 0;
        for (int n : parts) {
            two += n >= 2 ? 1 : 0;
            most = Math.max(most, n);
        }
        return new int[] {stops, costs, two, most}[what];
    }

    // ---- breaks

    int lay(int kind, int part, int bar) {
        if (kind < 0 || kind > 6 || noBar(part, bar)) {
            return tell(Check.BEYOND);
        }
        if (now.breaks.size() == 30) {
            return tell(Check.FULL);
        }
        now.breaks.add(new Break(kind, part, bar));
        return now.breaks.size() - 1;
    }

    private boolean may(int kind, int part, int bar) {
        Part p = now.parts[part];
        switch (kind) {
            case 0:
                return !p.bars.get(bar).keep() || bar == p.bars.size() - 1;
            case 1:
            case 2:
            case 4:
                return may(0, part, bar);
            case 3:
                return may(2, part, bar) && freeBehind(part, bar, 0) >= now.need;
            case 5:
                return may(3, part, bar) || may(2, part, bar) && p.neighbour >= 0
                        && bar < now.parts[p.neighbour].bars.size()
                        && freeBehind(p.neighbour, bar, 0) >= now.need;
            default:
                return may(2, part, bar) && freeBehind(part, bar, p.hearts) >= now.need;
        }
    }

    private int priceOf(int kind, int part, int bar) {
        switch (kind) {
            case 0:
                return 1;
            case 1:
                return priceOf(0, part, bar) + 2;
            case 2:
                return priceOf(0, part, bar) + 10;
            case 3:
                return priceOf(2, part, bar) + Math.max(0, (300 - freeBehind(part, bar, 0)) / 10);
            case 4:
                return priceOf(2, part, bar) * 2;
            case 5:
                return priceOf(3, part, bar) / 2;
            default:
                return priceOf(3, part, bar) + now.parts[part].hearts;
        }
    }

    int breakOf(int k, int what) {
        if (k < 0 || k >= now.breaks.size() || what < 0 || what > 4) {
            return tell(Check.BEYOND);
        }
        Break b = now.breaks.get(k);
        return new int[] {b.kind, b.part, b.bar, may(b.kind, b.part, b.bar) ? 1 : 0,
            priceOf(b.kind, b.part, b.bar)}[what];
    }

    int clear(int part) {
        if (noPart(part)) {
            return tell(Check.BEYOND);
        }
        int had = now.breaks.size();
        now.breaks.removeIf(b -> b.part == part);
        for (int s = 0; s < 10; s++) {
            if (now.spots[s] != null && now.spots[s].part == part) {
                now.spots[s] = null;
            }
        }
        return had - now.breaks.size();
    }

    private List<Break> breaksOf(int part) {
        List<Break> own = new ArrayList<>(now.breaks);
        own.removeIf(b -> b.part != part);
        return own;
    }

    int price(int part) {
        if (noPart(part)) {
            return tell(Check.BEYOND);
        }
        int sum = 0;
        for (Break b : breaksOf(part)) {
            sum += priceOf(b.kind, part, b.bar);
        }
        return sum;
    }

    private boolean isWider(int part, int from, int behind) {
        int room = 0;
        for (Bar b : now.parts[part].bars.subList(from, behind)) {
            room += b.room;
        }
        return room > now.width;
    }

    int judge(int part) {
        if (noPart(part)) {
            return tell(Check.BEYOND);
        }
        List<Break> own = breaksOf(part);
        for (int i = 0; i < own.size(); i++) {
            int ahead = i == 0 ? -1 : own.get(i - 1).bar;
            Break b = own.get(i);
            if (b.bar <= ahead || !may(b.kind, part, b.bar) || isWider(part, ahead + 1, b.bar + 1)) {
                return 1 + i;
            }
        }
        int last = own.isEmpty() ? -1 : own.get(own.size() - 1).bar;
        return isWider(part, last + 1, now.parts[part].bars.size()) ? 1 + own.size() : 0;
    }

    // ---- spots, sheets

    int hold(int spot, int k) {
        if (spot < 0 || spot > 9 || k < -1 || k >= now.breaks.size()) {
            return tell(Check.BEYOND);
        }
        now.spots[spot] = k < 0 ? null : now.breaks.get(k);
        return 1;
    }

    int as(int spot, int kind) {
        if (spot < 0 || spot > 9 || kind < 0 || kind > 6) {
            return tell(Check.BEYOND);
        }
        Break b = now.spots[spot];
        if (b == null) {
            return tell(Check.MISSING);
        }
        List<List<Integer>> kindsUnder = List.of(List.of(0, 1, 2, 3, 4, 5, 6), List.of(1),
                List.of(2, 3, 4, 5, 6), List.of(3, 5, 6), List.of(4), List.of(5), List.of(6));
        return kindsUnder.get(kind).contains(b.kind) ? now.breaks.indexOf(b) : tell(Check.KIND);
    }

    int sheet(int s, int bits, int n) {
        if (s < 0 || s > 3 || !List.of(0, 8, 16, 32).contains(bits)) {
            return tell(Check.BEYOND);
        }
        if (n < 0) {
            return tell(Check.SIZE);
        }
        if (n > 40) {
            return tell(Check.BEYOND);
        }
        sheetBits[s] = bits;
        sheets[s] = bits == 0 ? null : new long[n];
        return bits == 0 ? 0 : n;
    }

    int write(int s, int i, int v) {
        if (s < 0 || s > 3) {
            return tell(Check.BEYOND);
        }
        if (sheets[s] == null) {
            return tell(Check.MISSING);
        }
        if (i < 0 || i >= sheets[s].length) {
            return tell(Check.BEYOND);
        }
        long range = 1L << sheetBits[s];
        sheets[s][i] = Math.floorMod((long) v, range);
        return 1;
    }

    int copy(int s, int from, int t, int to, int n) {
        if (s < 0 || s > 3 || t < 0 || t > 3) {
            return tell(Check.BEYOND);
        }
        if (sheets[s] == null || sheets[t] == null) {
            return tell(Check.MISSING);
        }
        if (sheetBits[s] != sheetBits[t]) {
            return tell(Check.KIND);
        }
        if (from < 0 || to < 0 || n < 0 || (long) from + n > sheets[s].length
                || (long) to + n > sheets[t].length) {
            return tell(Check.BEYOND);
        }
        long[] were = sheets[s].clone();
        for (int i = 0; i < n; i++) {
            sheets[t][to + i] = were[from + i];
        }
        return n;
    }

    int rooms(int s, int part) {
        if (s < 0 || s > 3) {
            return tell(Check.BEYOND);
        }
        if (sheets[s] == null) {
            return tell(Check.MISSING);
        }
        if (noPart(part)) {
            return tell(Check.BEYOND);
        }
        int came = 0;
        for (int i = 0; i < sheets[s].length; i++) {
            if (!noBar(part, i) && sheets[s][i] >= 1 && sheets[s][i] <= 60) {
                now.parts[part].bars.get(i).room = (int) sheets[s][i];
                came++;
            }
        }
        return came;
    }

    int pages(int s, int part) {
        if (s < 0 || s > 3) {
            return tell(Check.BEYOND);
        }
        if (sheets[s] == null) {
            return tell(Check.MISSING);
        }
        if (noPart(part)) {
            return tell(Check.BEYOND);
        }
        Laying l = laying(part);
        if (l == null) {
            return tell(Check.NONE);
        }
        List<Long> lasts = new ArrayList<>();
        for (Page p : l.pages) {
            lasts.add((long) p.last);
        }
        List<Long> told = new ArrayList<>();
        for (long v : sheets[s]) {
            told.add(v);
        }
        if (lasts.equals(told)) {
            return 0;
        }
        int right = 0;
        while (right < Math.min(lasts.size(), told.size()) && lasts.get(right).equals(told.get(right))) {
            right++;
        }
        return 1 + right;
    }

    // ---- images

    int image() {
        image = now.copy();
        return 1;
    }

    int undo() {
        if (image == null) {
            return tell(Check.NONE);
        }
        now = image.copy();
        return count(0);
    }

    int tear() {
        int was = image == null ? 0 : 1;
        image = null;
        return was;
    }

    int count(int what) {
        switch (what) {
            case 0:
                return Arrays.stream(now.parts).mapToInt(p -> p.bars.size()).sum();
            case 1:
                return now.breaks.size();
            case 2:
                return tape.length();
            case 3:
                return (int) Arrays.stream(now.spots).filter(b -> b != null).count();
            default:
                return tell(Check.BEYOND);
        }
    }

    int status(int which) {
        if (which < -1 || which > 6) {
            return tell(Check.BEYOND);
        }
        if (which == -1) {
            return told.values().stream().mapToInt(n -> n).sum();
        }
        return told.getOrDefault(Check.BEYOND - which, 0);
    }
}
