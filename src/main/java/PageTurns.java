import java.util.Arrays;

/** Parts of bars, laid in lines and pages so that a hand is free at each turn. */
public final class PageTurns {
    private static final int BEYOND = -1000001;
    private static final int FULL = -1000002;
    private static final int KIND = -1000003;
    private static final int NONE = -1000004;
    private static final int STATE = -1000005;
    private static final int MISSING = -1000006;
    private static final int SIZE = -1000007;
    private static final int FINDINGS = 7;

    private static final int PARTS = 4;
    private static final int MOST_BARS = 40;
    private static final int MOST_ROOM = 60;
    private static final int MOST_BEATS = 12;
    private static final int USUAL_BEATS = 4;

    // What a part has, by the numbers that set() gives them.
    private static final int SPEED = 0;
    private static final int HEARTS = 1;
    private static final int NEIGHBOUR = 2;
    private static final int FOLDS = 3;
    private static final int[] TRAIT_LEAST = {30, 0, -1, 0};
    private static final int[] TRAIT_MOST = {240, 8, 3, 1023};
    private static final int MOST_HEARTS = 8;

    // What a bar has, by the numbers that bar() gives them.
    private static final int ROOM = 0;
    private static final int HAND = 1;
    private static final int BEATS = 2;
    private static final int MARKS = 3;
    private static final int FACTS = 4;

    private static final int HALF_HAND = 1;
    private static final int FREE_HAND = 2;

    private static final int KEEP = 1;
    private static final int LETTER = 2;
    private static final int WISH = 4;
    private static final int ALL_MARKS = 7;

    // The rules, by the numbers that rule() gives them.
    private static final int WIDTH = 0;
    private static final int LINES = 1;
    private static final int NEED = 2;
    private static final int KEPT = 3;
    private static final int PAPER = 4;
    private static final int[] RULE_LEAST = {20, 1, 0, 0, 0};
    private static final int[] RULE_MOST = {200, 6, 999, 99, 999};
    private static final int MOST_LINES = 6;
    private static final int MOST_NEED = 999;

    private static final int SIZES = 3;
    private static final int NO_COST = 2147483647;

    // Pages 0 to 9 may be folded one by one; behind these only odd and even
    // differ, so that state 10 stands for 10, 12, .. and 11 for 11, 13, ..
    private static final int PAGE_STATES = 12;
    private static final int ALL_STATES = 4095;
    private static final int EVEN_STATES = 1365;
    private static final int FOLD_CHOICES = 32;

    // A laying's worth in one number: stops weigh more than all costs
    // together, and one of cost more than all pages together.
    private static final long STOP_WEIGHT = 1L << 40;
    private static final long COST_WEIGHT = 64L;
    private static final long NO_WORTH = 9223372036854775807L;

    private static final int NO_TURN = 0;
    private static final int SAFE_TURN = 1;
    private static final int STOP_TURN = 2;

    private static final int LINE_BREAK = 1;
    private static final int PAGE_BREAK = 2;
    private static final int TURN_BREAK = 3;
    private static final int FOLD_BREAK = 4;
    private static final int SHARED_BREAK = 5;
    private static final int HEART_BREAK = 6;
    private static final int[] KIND_ABOVE = {-1, 0, 0, 2, 2, 3, 3};
    private static final int KINDS = 7;
    private static final int MOST_BREAKS = 30;
    private static final int SPOTS = 10;

    private static final int SHEETS = 4;
    private static final int MOST_NUMBERS = 40;

    private static final int MOST_BYTES = 120;
    private static final int MOST_OPEN = 4;
    private static final int MOST_TIMES = 9;
    private static final int MOST_NUMBER = 9999;

    private static final int TOKEN_END = 0;
    private static final int TOKEN_WORD = 1;
    private static final int TOKEN_NUMBER = 2;
    private static final int TOKEN_OPEN = 3;
    private static final int TOKEN_CLOSE = 4;
    private static final int TOKEN_STRANGE = 5;

    // Numbers of the words; the first three are also those of the hands.
    private static final int WORD_BUSY = 0;
    private static final int WORD_HALF = 1;
    private static final int WORD_FREE = 2;
    private static final int WORD_BEATS = 3;
    private static final int WORD_KEEP = 4;
    private static final int WORD_LETTER = 5;
    private static final int WORD_WISH = 6;
    private static final int WORD_OTHER = 7;

    private final State now = new State();
    private final State kept = new State();
    private boolean isKept;
    private final TextReader reader = new TextReader();
    private final Sheet[] sheets = new Sheet[SHEETS];
    private final PageTable[] tables = new PageTable[PARTS];
    private final Laying[] layings = new Laying[PARTS];
    private final Engraver engraver = new Engraver();
    private final int[] told = new int[FINDINGS];

    public PageTurns() {
        for (int s = 0; s < SHEETS; s++) {
            sheets[s] = new Sheet();
        }
        for (int p = 0; p < PARTS; p++) {
            tables[p] = new PageTable();
            layings[p] = new Laying();
        }
    }

    // ---- parts, texts

    public int set(int part, int what, int v) {
        if (!isPart(part) || !within(what, SPEED, FOLDS)
                || !within(v, TRAIT_LEAST[what], TRAIT_MOST[what])
                || what == NEIGHBOUR && v == part) {
            return tell(BEYOND);
        }
        int[] traits = now.parts[part].traits;
        int was = traits[what];
        traits[what] = v;
        forgetLayings();
        return was;
    }

    public int rule(int what, int v) {
        if (!within(what, WIDTH, PAPER) || !within(v, RULE_LEAST[what], RULE_MOST[what])) {
            return tell(BEYOND);
        }
        int was = now.rules[what];
        now.rules[what] = v;
        if (what == NEED || what == PAPER) {
            forgetLayings();
        } else {
            forgetAll();
        }
        return was;
    }

    public int feed(int bytes, int n) {
        if (!within(n, 1, 4)) {
            return tell(BEYOND);
        }
        Tape tape = reader.tape;
        if (!tape.hasRoomFor(n)) {
            return tell(FULL);
        }
        for (int shift = 8 * (n - 1); shift >= 0; shift -= 8) {
            tape.put(bytes >> shift);
        }
        return tape.length;
    }

    public int wipe() {
        int had = reader.tape.length;
        reader.tape.length = 0;
        return had;
    }

    public int read(int part) {
        if (!isPart(part)) {
            return tell(BEYOND);
        }
        int fault = reader.findFault();
        reader.tape.length = 0;
        if (fault >= 0) {
            return -1 - fault;
        }
        Part own = now.parts[part];
        if (reader.isOver || !own.append(reader.facts, reader.bars)) {
            return tell(FULL);
        }
        forgetPart(part);
        return own.bars;
    }

    public int bar(int part, int bar, int what) {
        if (!isBar(part, bar) || !within(what, ROOM, MARKS)) {
            return tell(BEYOND);
        }
        return now.parts[part].fact(bar, what);
    }

    public int change(int part, int bar, int what, int v) {
        if (!isBar(part, bar)) {
            return tell(BEYOND);
        }
        boolean isHand = what == HAND && within(v, 0, FREE_HAND);
        boolean isMarks = what == MARKS && within(v, 0, ALL_MARKS);
        if (!isHand && !isMarks) {
            return tell(BEYOND);
        }
        Part own = now.parts[part];
        int was = own.fact(bar, what);
        own.put(bar, what, v);
        if (isMarks) {
            forgetPart(part);
        } else {
            forgetLayings();
        }
        return was;
    }

    public int cut(int part, int bar, int n) {
        if (!isBar(part, bar) || !within(n, 1, now.parts[part].bars - bar)) {
            return tell(BEYOND);
        }
        if (now.breaks.ofPart(part) > 0) {
            return tell(STATE);
        }
        now.parts[part].drop(bar, n);
        forgetPart(part);
        return now.parts[part].bars;
    }

    public int free(int part, int bar, int how) {
        if (!isBar(part, bar) || !within(how, 0, 1)) {
            return tell(BEYOND);
        }
        Part own = now.parts[part];
        return own.freeBehind(bar, how == 0 ? 0 : own.traits[HEARTS]);
    }

    // ---- lines, pages

    public int room(int part, int bar, int size) {
        if (!isBar(part, bar) || !isSize(size)) {
            return tell(BEYOND);
        }
        return now.parts[part].roomAt(bar, size);
    }

    public int line(int part, int from, int to, int size) {
        if (!isStretch(part, from, to) || !isSize(size)) {
            return tell(BEYOND);
        }
        LineTable lines = engraver.lines;
        lines.fillFrom(now.parts[part], now.rules, size, from, to);
        if (!lines.fits(from, to)) {
            return tell(KIND);
        }
        int cost = lines.costOf(from, to);
        return cost == NO_COST ? tell(STATE) : cost;
    }

    public int page(int part, int from, int to, int size) {
        if (!isStretch(part, from, to) || !isSize(size)) {
            return tell(BEYOND);
        }
        LineTable lines = engraver.lines;
        lines.fill(now.parts[part], now.rules, size, from, to);
        lines.fillPages(from, to, now.rules[LINES]);
        int cost = lines.pageCost(now.rules[LINES], from);
        return cost == NO_COST ? tell(NONE) : cost;
    }

    public int best(int part, int what) {
        if (!isPart(part) || !within(what, 0, 4)) {
            return tell(BEYOND);
        }
        Laying laying = layingOf(part);
        if (laying.isNone()) {
            return tell(NONE);
        }
        switch (what) {
            case 0:
                return laying.stops;
            case 1:
                return laying.cost;
            case 2:
                return laying.pages;
            case 3:
                return laying.lines;
            default:
                return laying.turns;
        }
    }

    public int laid(int part, int i, int what) {
        if (!isPart(part) || i < 0 || !within(what, 0, 5)) {
            return tell(BEYOND);
        }
        Laying laying = layingOf(part);
        return i < laying.pages ? laying.ofPage(i, what) : tell(NONE);
    }

    public int ends(int part, int i) {
        if (!isPart(part) || i < 0) {
            return tell(BEYOND);
        }
        Laying laying = layingOf(part);
        return i < laying.lines ? laying.lineEnd[i] : tell(NONE);
    }

    public int stop(int part, int i) {
        if (!isPart(part) || i < 0) {
            return tell(BEYOND);
        }
        int bar = layingOf(part).barOfStop(i);
        return bar < 0 ? tell(NONE) : bar;
    }

    // ---- what would mend it

    public int hearts(int part) {
        if (!isPart(part)) {
            return tell(BEYOND);
        }
        PageTable table = tableOf(part);
        int folds = now.parts[part].traits[FOLDS];
        for (int h = 0; h <= MOST_HEARTS; h++) {
            engraver.findEase(now, part, h);
            if (engraver.flows(table, folds, now.rules[NEED])) {
                return h;
            }
        }
        return tell(NONE);
    }

    public int folds(int part) {
        if (!isPart(part)) {
            return tell(BEYOND);
        }
        PageTable table = tableOf(part);
        engraver.findEase(now, part, now.parts[part].traits[HEARTS]);
        int found = -1;
        for (int choice = 0; choice < FOLD_CHOICES; choice++) {
            int set = evenPages(choice);
            boolean isFewer = found < 0 || Integer.bitCount(set) < Integer.bitCount(found);
            if (isFewer && engraver.flows(table, set, now.rules[NEED])) {
                found = set;
            }
        }
        return found < 0 ? tell(NONE) : found;
    }

    public int needs(int part) {
        if (!isPart(part)) {
            return tell(BEYOND);
        }
        PageTable table = tableOf(part);
        Part own = now.parts[part];
        int folds = own.traits[FOLDS];
        engraver.findEase(now, part, own.traits[HEARTS]);
        if (!engraver.flows(table, folds, 0)) {
            return tell(NONE);
        }
        // A greater need never takes a stop away, so the greatest one
        // without a stop is found bit by bit.
        int without = 0;
        for (int bit = 512; bit > 0; bit >>= 1) {
            if (engraver.flows(table, folds, without + bit)) {
                without += bit;
            }
        }
        return without < MOST_NEED ? without + 1 : tell(NONE);
    }

    public int together(int a, int b) {
        if (!isPart(a) || !isPart(b) || a == b) {
            return tell(BEYOND);
        }
        Laying one = layingOf(a);
        Laying other = layingOf(b);
        if (one.isNone() || other.isNone()) {
            return tell(NONE);
        }
        int both = 0;
        for (int bar = 0; bar < MOST_BARS; bar++) {
            if (one.turnBehind[bar] != NO_TURN && other.turnBehind[bar] != NO_TURN) {
                both++;
            }
        }
        return both;
    }

    public int all(int what) {
        if (!within(what, 0, 3)) {
            return tell(BEYOND);
        }
        int stops = 0;
        int costs = 0;
        for (int p = 0; p < PARTS; p++) {
            Laying laying = layingOf(p);
            stops += laying.stops;
            costs += laying.cost;
        }
        if (what >= 2) {
            return turnsAtOnce(what == 3);
        }
        return what == 0 ? stops : costs;
    }

    // ---- breaks

    public int lay(int kind, int part, int bar) {
        if (!within(kind, 0, KINDS - 1) || !isBar(part, bar)) {
            return tell(BEYOND);
        }
        int number = now.breaks.add(kind, part, bar);
        return number < 0 ? tell(FULL) : number;
    }

    public int breakOf(int k, int what) {
        Breaks breaks = now.breaks;
        if (!breaks.has(k) || !within(what, 0, 4)) {
            return tell(BEYOND);
        }
        switch (what) {
            case 0:
                return breaks.kinds[k];
            case 1:
                return breaks.parts[k];
            case 2:
                return breaks.bars[k];
            case 3:
                return now.mayBreak(breaks.kinds[k], breaks.parts[k], breaks.bars[k]) ? 1 : 0;
            default:
                return now.priceOf(breaks.kinds[k], breaks.parts[k], breaks.bars[k]);
        }
    }

    public int clear(int part) {
        return isPart(part) ? now.breaks.dropPart(part) : tell(BEYOND);
    }

    public int price(int part) {
        if (!isPart(part)) {
            return tell(BEYOND);
        }
        Breaks breaks = now.breaks;
        int sum = 0;
        for (int k = 0; k < breaks.number; k++) {
            if (breaks.parts[k] == part) {
                sum += now.priceOf(breaks.kinds[k], part, breaks.bars[k]);
            }
        }
        return sum;
    }

    public int judge(int part) {
        return isPart(part) ? now.firstWrong(part) : tell(BEYOND);
    }

    // ---- spots, sheets

    public int hold(int spot, int k) {
        if (!within(spot, 0, SPOTS - 1) || k != -1 && !now.breaks.has(k)) {
            return tell(BEYOND);
        }
        now.breaks.spots[spot] = k;
        return 1;
    }

    public int as(int spot, int kind) {
        if (!within(spot, 0, SPOTS - 1) || !within(kind, 0, KINDS - 1)) {
            return tell(BEYOND);
        }
        int k = now.breaks.spots[spot];
        if (!now.breaks.has(k)) {
            return tell(MISSING);
        }
        return Breaks.isUnder(now.breaks.kinds[k], kind) ? k : tell(KIND);
    }

    public int sheet(int s, int bits, int n) {
        boolean isWidth = bits == 0 || bits == 8 || bits == 16 || bits == 32;
        if (!isSheet(s) || !isWidth) {
            return tell(BEYOND);
        }
        if (n < 0) {
            return tell(SIZE);
        }
        if (n > MOST_NUMBERS) {
            return tell(BEYOND);
        }
        return sheets[s].renew(bits, n);
    }

    public int write(int s, int i, int v) {
        if (!isSheet(s)) {
            return tell(BEYOND);
        }
        if (sheets[s].isMissing()) {
            return tell(MISSING);
        }
        return sheets[s].put(i, v) ? 1 : tell(BEYOND);
    }

    public int copy(int s, int from, int t, int to, int n) {
        if (!isSheet(s) || !isSheet(t)) {
            return tell(BEYOND);
        }
        Sheet source = sheets[s];
        Sheet target = sheets[t];
        if (source.isMissing() || target.isMissing()) {
            return tell(MISSING);
        }
        if (source.bits != target.bits) {
            return tell(KIND);
        }
        if (!source.hasStretch(from, n) || !target.hasStretch(to, n)) {
            return tell(BEYOND);
        }
        System.arraycopy(source.numbers, from, target.numbers, to, n);
        return n;
    }

    public int rooms(int s, int part) {
        if (!isSheet(s)) {
            return tell(BEYOND);
        }
        if (sheets[s].isMissing()) {
            return tell(MISSING);
        }
        if (!isPart(part)) {
            return tell(BEYOND);
        }
        Part own = now.parts[part];
        int came = 0;
        for (int i = 0; i < sheets[s].length && own.has(i); i++) {
            int room = sheets[s].numbers[i];
            if (within(room, 1, MOST_ROOM)) {
                own.put(i, ROOM, room);
                came++;
            }
        }
        forgetPart(part);
        return came;
    }

    public int pages(int s, int part) {
        if (!isSheet(s)) {
            return tell(BEYOND);
        }
        Sheet sheet = sheets[s];
        if (sheet.isMissing()) {
            return tell(MISSING);
        }
        if (!isPart(part)) {
            return tell(BEYOND);
        }
        Laying laying = layingOf(part);
        if (laying.isNone()) {
            return tell(NONE);
        }
        int right = 0;
        for (int i = 0; i < sheet.length && i < laying.pages; i++) {
            if (sheet.numbers[i] != laying.last[i]) {
                break;
            }
            right++;
        }
        return right == sheet.length && right == laying.pages ? 0 : 1 + right;
    }

    // ---- images

    public int image() {
        kept.become(now);
        isKept = true;
        return 1;
    }

    public int undo() {
        if (!isKept) {
            return tell(NONE);
        }
        now.become(kept);
        forgetAll();
        return now.barsInAll();
    }

    public int tear() {
        int was = isKept ? 1 : 0;
        isKept = false;
        return was;
    }

    public int count(int what) {
        switch (what) {
            case 0:
                return now.barsInAll();
            case 1:
                return now.breaks.number;
            case 2:
                return reader.tape.length;
            case 3:
                return now.breaks.heldSpots();
            default:
                return tell(BEYOND);
        }
    }

    public int status(int which) {
        if (!within(which, -1, FINDINGS - 1)) {
            return tell(BEYOND);
        }
        if (which >= 0) {
            return told[which];
        }
        int sum = 0;
        for (int f = 0; f < FINDINGS; f++) {
            sum += told[f];
        }
        return sum;
    }

    // ---- helpers

    private int tell(int finding) {
        int f = BEYOND - finding;
        if (within(f, 0, FINDINGS - 1)) {
            told[f]++;
        }
        return finding;
    }

    private static boolean within(int v, int least, int most) {
        return v >= least && v <= most;
    }

    private static boolean isPart(int part) {
        return within(part, 0, PARTS - 1);
    }

    private static boolean isSheet(int s) {
        return within(s, 0, SHEETS - 1);
    }

    private static boolean isSize(int size) {
        return within(size, 0, SIZES - 1);
    }

    private boolean isBar(int part, int bar) {
        return isPart(part) && now.parts[part].has(bar);
    }

    private boolean isStretch(int part, int from, int to) {
        return isBar(part, from) && isBar(part, to) && from <= to;
    }

    /** The five bits of a choice, spread over pages 0, 2, 4, 6, 8. */
    private static int evenPages(int choice) {
        int set = 0;
        for (int bit = 0; bit < 5; bit++) {
            set |= (choice >> bit & 1) << 2 * bit;
        }
        return set;
    }

    /** At how many bars two or more parts turn, or how many do where most do; layings are fresh. */
    private int turnsAtOnce(boolean wantsMost) {
        int most = 0;
        int shared = 0;
        for (int bar = 0; bar < MOST_BARS; bar++) {
            int parts = 0;
            for (int p = 0; p < PARTS; p++) {
                if (layings[p].turnBehind[bar] != NO_TURN) {
                    parts++;
                }
            }
            most = Math.max(most, parts);
            if (parts >= 2) {
                shared++;
            }
        }
        return wantsMost ? most : shared;
    }

    private PageTable tableOf(int part) {
        PageTable table = tables[part];
        if (!table.isFresh) {
            table.fill(now.parts[part], now.rules, engraver.lines);
        }
        return table;
    }

    private Laying layingOf(int part) {
        Laying laying = layings[part];
        if (!laying.isFresh) {
            Part own = now.parts[part];
            PageTable table = tableOf(part);
            engraver.findEase(now, part, own.traits[HEARTS]);
            engraver.weigh(table, own.traits[FOLDS], now.rules);
            engraver.layOut(own, now.rules, table, laying);
        }
        return laying;
    }

    // A part's bars also tell where its neighbours may turn, so that any
    // change makes all layings old; costs of pages are the part's own.
    private void forgetPart(int part) {
        tables[part].isFresh = false;
        forgetLayings();
    }

    private void forgetAll() {
        for (int p = 0; p < PARTS; p++) {
            forgetPart(p);
        }
    }

    private void forgetLayings() {
        for (int p = 0; p < PARTS; p++) {
            layings[p].isFresh = false;
        }
    }

    /** A part: what it has itself, and its bars. */
    private static final class Part {
        final int[] traits = {60, 0, -1, 0};
        final int[] facts = new int[MOST_BARS * FACTS];
        int bars;

        boolean has(int bar) {
            return bar >= 0 && bar < bars;
        }

        int fact(int bar, int what) {
            return facts[bar * FACTS + what];
        }

        void put(int bar, int what, int v) {
            facts[bar * FACTS + what] = v;
        }

        boolean isMarked(int bar, int mark) {
            return (facts[bar * FACTS + MARKS] & mark) != 0;
        }

        void become(Part other) {
            System.arraycopy(other.traits, 0, traits, 0, traits.length);
            System.arraycopy(other.facts, 0, facts, 0, other.bars * FACTS);
            bars = other.bars;
        }

        /** Puts bars behind those that are there; false if they have no room. */
        boolean append(int[] more, int n) {
            if (n > MOST_BARS - bars) {
                return false;
            }
            System.arraycopy(more, 0, facts, bars * FACTS, n * FACTS);
            bars += n;
            return true;
        }

        void drop(int bar, int n) {
            int behind = bar + n;
            System.arraycopy(facts, behind * FACTS, facts, bar * FACTS, (bars - behind) * FACTS);
            bars -= n;
        }

        boolean mayEndLine(int bar) {
            return bar == bars - 1 || (facts[bar * FACTS + MARKS] & KEEP) == 0;
        }

        int roomAt(int bar, int size) {
            return (facts[bar * FACTS + ROOM] * (10 - 2 * size) + 9) / 10;
        }

        /** The room of all bars from one to another at size 0. */
        int roomFromTo(int from, int to) {
            int sum = 0;
            for (int b = from; b <= to; b++) {
                sum += fact(b, ROOM);
            }
            return sum;
        }

        /** How long a hand is free behind a bar if the next ones, so many, are known by heart. */
        int freeBehind(int bar, int known) {
            int beats = freeBeats(bar, -1, 0) + freeBeats(bar + 1, 1, known);
            return beats * 6000 / Math.max(1, traits[SPEED]);
        }

        private int freeBeats(int from, int step, int known) {
            int beats = 0;
            for (int n = 0; n < MOST_BARS; n++) {
                int b = from + n * step;
                if (!has(b)) {
                    break;
                }
                int hand = n < known ? FREE_HAND : fact(b, HAND);
                if (hand != FREE_HAND) {
                    return hand == HALF_HAND ? beats + fact(b, BEATS) / 2 : beats;
                }
                beats += fact(b, BEATS);
            }
            return beats;
        }
    }

    /** Breaks that were told, and the spots that hold some of them. */
    private static final class Breaks {
        final int[] kinds = new int[MOST_BREAKS];
        final int[] parts = new int[MOST_BREAKS];
        final int[] bars = new int[MOST_BREAKS];
        int number;
        final int[] spots = new int[SPOTS];

        Breaks() {
            Arrays.fill(spots, -1);
        }

        boolean has(int k) {
            return k >= 0 && k < number;
        }

        void become(Breaks other) {
            System.arraycopy(other.kinds, 0, kinds, 0, MOST_BREAKS);
            System.arraycopy(other.parts, 0, parts, 0, MOST_BREAKS);
            System.arraycopy(other.bars, 0, bars, 0, MOST_BREAKS);
            System.arraycopy(other.spots, 0, spots, 0, SPOTS);
            number = other.number;
        }

        /** The number of the new break, or -1 if there is no room for it. */
        int add(int kind, int part, int bar) {
            if (number >= MOST_BREAKS) {
                return -1;
            }
            kinds[number] = kind;
            parts[number] = part;
            bars[number] = bar;
            number++;
            return number - 1;
        }

        int ofPart(int part) {
            int found = 0;
            for (int k = 0; k < number; k++) {
                if (parts[k] == part) {
                    found++;
                }
            }
            return found;
        }

        int dropPart(int part) {
            int stay = 0;
            for (int k = 0; k < number; k++) {
                boolean goes = parts[k] == part;
                // Those that closed up have numbers below k already, so
                // that no spot is renumbered twice.
                renumberSpots(k, goes ? -1 : stay);
                if (!goes) {
                    kinds[stay] = kinds[k];
                    parts[stay] = parts[k];
                    bars[stay] = bars[k];
                    stay++;
                }
            }
            int went = number - stay;
            number = stay;
            return went;
        }

        private void renumberSpots(int k, int become) {
            for (int s = 0; s < SPOTS; s++) {
                if (spots[s] == k) {
                    spots[s] = become;
                }
            }
        }

        int heldSpots() {
            int held = 0;
            for (int s = 0; s < SPOTS; s++) {
                if (spots[s] >= 0) {
                    held++;
                }
            }
            return held;
        }

        /** True if a kind is another one, or one under it. */
        static boolean isUnder(int kind, int above) {
            int k = kind;
            for (int step = 0; step < KINDS && k >= 0 && k < KINDS; step++) {
                if (k == above) {
                    return true;
                }
                k = KIND_ABOVE[k];
            }
            return false;
        }
    }

    /** All that an image keeps. */
    private static final class State {
        final Part[] parts = new Part[PARTS];
        final int[] rules = {60, 3, 150, 0, 50};
        final Breaks breaks = new Breaks();

        State() {
            for (int p = 0; p < PARTS; p++) {
                parts[p] = new Part();
            }
        }

        void become(State other) {
            for (int p = 0; p < PARTS; p++) {
                parts[p].become(other.parts[p]);
            }
            System.arraycopy(other.rules, 0, rules, 0, rules.length);
            breaks.become(other.breaks);
        }

        int barsInAll() {
            int sum = 0;
            for (int p = 0; p < PARTS; p++) {
                sum += parts[p].bars;
            }
            return sum;
        }

        /** How long a hand of the neighbour is free behind its bar of that number, or -1. */
        int neighbourFree(int part, int bar) {
            int neighbour = parts[part].traits[NEIGHBOUR];
            if (!isPart(neighbour) || !parts[neighbour].has(bar)) {
                return -1;
            }
            return parts[neighbour].freeBehind(bar, 0);
        }

        boolean mayBreak(int kind, int part, int bar) {
            Part own = parts[part];
            if (!own.mayEndLine(bar)) {
                return false;
            }
            int need = rules[NEED];
            switch (kind) {
                case TURN_BREAK:
                    return own.freeBehind(bar, 0) >= need;
                case SHARED_BREAK:
                    return own.freeBehind(bar, 0) >= need || neighbourFree(part, bar) >= need;
                case HEART_BREAK:
                    return own.freeBehind(bar, own.traits[HEARTS]) >= need;
                default:
                    return true;
            }
        }

        int priceOf(int kind, int part, int bar) {
            Part own = parts[part];
            int pagePrice = 11;
            int turnPrice = pagePrice + Math.max(0, 300 - own.freeBehind(bar, 0)) / 10;
            switch (kind) {
                case LINE_BREAK:
                    return 3;
                case PAGE_BREAK:
                    return pagePrice;
                case TURN_BREAK:
                    return turnPrice;
                case FOLD_BREAK:
                    return 2 * pagePrice;
                case SHARED_BREAK:
                    return turnPrice / 2;
                case HEART_BREAK:
                    return turnPrice + own.traits[HEARTS];
                default:
                    return 1;
            }
        }

        /** What judge() answers. */
        int firstWrong(int part) {
            Part own = parts[part];
            int looked = 0;
            int ahead = -1;
            for (int k = 0; k < breaks.number; k++) {
                if (breaks.parts[k] != part) {
                    continue;
                }
                int bar = breaks.bars[k];
                if (bar <= ahead || !mayBreak(breaks.kinds[k], part, bar)
                        || own.roomFromTo(ahead + 1, bar) > rules[WIDTH]) {
                    return 1 + looked;
                }
                looked++;
                ahead = bar;
            }
            return own.roomFromTo(ahead + 1, own.bars - 1) > rules[WIDTH] ? 1 + looked : 0;
        }
    }

    /** The bytes that were fed, and the tokens in them. */
    private static final class Tape {
        private final byte[] bytes = new byte[MOST_BYTES];
        int length;

        // Behind the last token stands one more, the end.
        private final int[] kinds = new int[MOST_BYTES + 1];
        private final int[] starts = new int[MOST_BYTES + 1];
        private final int[] values = new int[MOST_BYTES + 1];
        private int tokens;

        boolean hasRoomFor(int n) {
            return n <= MOST_BYTES - length;
        }

        void put(int oneByte) {
            if (hasRoomFor(1)) {
                bytes[length] = (byte) oneByte;
                length++;
            }
        }

        /** The same number, or that of the end if there are not so many tokens. */
        private int known(int t) {
            return t >= 0 && t < tokens ? t : tokens;
        }

        int kindOf(int t) {
            return kinds[known(t)];
        }

        int startOf(int t) {
            return starts[known(t)];
        }

        int valueOf(int t) {
            return values[known(t)];
        }

        void split() {
            tokens = 0;
            int next = 0;
            for (int at = 0; at < length; at++) {
                if (at >= next && bytes[at] != ' ') {
                    next = behindToken(at);
                    addToken(at, next);
                }
            }
            kinds[tokens] = TOKEN_END;
            starts[tokens] = length;
            values[tokens] = 0;
        }

        private int behindToken(int start) {
            int at = start + 1;
            if (isLetter(start)) {
                while (at < length && isLetter(at)) {
                    at++;
                }
            } else if (isDigit(start)) {
                while (at < length && isDigit(at)) {
                    at++;
                }
            }
            return at;
        }

        private void addToken(int start, int behind) {
            if (tokens >= MOST_BYTES) {
                return;
            }
            starts[tokens] = start;
            values[tokens] = 0;
            if (isLetter(start)) {
                kinds[tokens] = TOKEN_WORD;
                values[tokens] = wordNumber(start, behind);
            } else if (isDigit(start)) {
                kinds[tokens] = TOKEN_NUMBER;
                values[tokens] = numberValue(start, behind);
            } else if (bytes[start] == '(') {
                kinds[tokens] = TOKEN_OPEN;
            } else {
                kinds[tokens] = bytes[start] == ')' ? TOKEN_CLOSE : TOKEN_STRANGE;
            }
            tokens++;
        }

        private boolean isLetter(int at) {
            return bytes[at] >= 'a' && bytes[at] <= 'z';
        }

        private boolean isDigit(int at) {
            return bytes[at] >= '0' && bytes[at] <= '9';
        }

        /** The number's value; one more than the greatest stands for all that are too great. */
        private int numberValue(int start, int behind) {
            int value = 0;
            for (int at = start; at < behind; at++) {
                value = Math.min(MOST_NUMBER + 1, value * 10 + bytes[at] - '0');
            }
            return value;
        }

        private int wordNumber(int start, int behind) {
            if (spells(start, behind, "busy")) {
                return WORD_BUSY;
            }
            if (spells(start, behind, "half")) {
                return WORD_HALF;
            }
            if (spells(start, behind, "free")) {
                return WORD_FREE;
            }
            if (spells(start, behind, "beats")) {
                return WORD_BEATS;
            }
            if (spells(start, behind, "keep")) {
                return WORD_KEEP;
            }
            if (spells(start, behind, "letter")) {
                return WORD_LETTER;
            }
            return spells(start, behind, "wish") ? WORD_WISH : WORD_OTHER;
        }

        private boolean spells(int start, int behind, String word) {
            if (behind - start != word.length()) {
                return false;
            }
            for (int i = 0; i < word.length(); i++) {
                if (bytes[start + i] != word.charAt(i)) {
                    return false;
                }
            }
            return true;
        }
    }

    /** The tape, and the bars that are read from its tokens. */
    private static final class TextReader {
        final Tape tape = new Tape();
        private int at;

        final int[] facts = new int[MOST_BARS * FACTS];
        int bars;
        boolean isOver;

        private int open;
        private final int[] times = new int[MOST_OPEN];
        private final int[] firstBar = new int[MOST_OPEN];

        /** Reads all bars: the place of the first token that can't stand there, or -1. */
        int findFault() {
            tape.split();
            at = 0;
            bars = 0;
            isOver = false;
            open = 0;
            boolean isBare = true;
            for (int step = 0; step <= MOST_BYTES; step++) {
                int kind = tape.kindOf(at);
                if (kind == TOKEN_END && open == 0 && !isBare) {
                    return -1;
                }
                boolean isGood = false;
                if (kind == TOKEN_NUMBER) {
                    isGood = takeOpening();
                } else if (kind == TOKEN_WORD) {
                    isGood = takeBar();
                } else if (kind == TOKEN_CLOSE && !isBare) {
                    isGood = takeClosing();
                }
                if (!isGood) {
                    break;
                }
                isBare = kind == TOKEN_NUMBER;
            }
            return tape.startOf(at);
        }

        // The take-methods leave the reader at the token that can't stand
        // there if they answer false, and behind what they took if true.

        private boolean takeOpening() {
            if (!isNumber(1, MOST_TIMES)) {
                return false;
            }
            int often = tape.valueOf(at);
            at++;
            if (tape.kindOf(at) != TOKEN_OPEN || open >= MOST_OPEN) {
                return false;
            }
            at++;
            times[open] = often;
            firstBar[open] = bars;
            open++;
            return true;
        }

        private boolean takeClosing() {
            if (open <= 0) {
                return false;
            }
            at++;
            open--;
            int group = bars - firstBar[open];
            for (int time = 1; time < times[open]; time++) {
                repeatLast(group);
            }
            return true;
        }

        private void repeatLast(int group) {
            if (isOver || group > MOST_BARS - bars) {
                isOver = true;
                return;
            }
            System.arraycopy(facts, (bars - group) * FACTS, facts, bars * FACTS, group * FACTS);
            bars += group;
        }

        private boolean takeBar() {
            int hand = tape.valueOf(at);
            if (hand > WORD_FREE) {
                return false;
            }
            at++;
            if (!isNumber(1, MOST_ROOM)) {
                return false;
            }
            int room = tape.valueOf(at);
            int beats = USUAL_BEATS;
            at++;
            if (isWord(WORD_BEATS)) {
                at++;
                if (!isNumber(1, MOST_BEATS)) {
                    return false;
                }
                beats = tape.valueOf(at);
                at++;
            }
            addBar(room, hand, beats, takeMarks());
            return true;
        }

        private int takeMarks() {
            int marks = 0;
            for (int step = 0; step < MOST_BYTES; step++) {
                if (isWord(WORD_KEEP)) {
                    marks |= KEEP;
                } else if (isWord(WORD_LETTER)) {
                    marks |= LETTER;
                } else if (isWord(WORD_WISH)) {
                    marks |= WISH;
                } else {
                    break;
                }
                at++;
            }
            return marks;
        }

        private void addBar(int room, int hand, int beats, int marks) {
            if (bars >= MOST_BARS) {
                isOver = true;
                return;
            }
            int place = bars * FACTS;
            facts[place + ROOM] = room;
            facts[place + HAND] = hand;
            facts[place + BEATS] = beats;
            facts[place + MARKS] = marks;
            bars++;
        }

        private boolean isNumber(int least, int most) {
            return tape.kindOf(at) == TOKEN_NUMBER && within(tape.valueOf(at), least, most);
        }

        private boolean isWord(int word) {
            return tape.kindOf(at) == TOKEN_WORD && tape.valueOf(at) == word;
        }
    }

    /** A row of numbers, or none. */
    private static final class Sheet {
        final int[] numbers = new int[MOST_NUMBERS];
        int bits;
        int length;

        boolean isMissing() {
            return bits == 0;
        }

        int renew(int newBits, int n) {
            bits = newBits;
            length = newBits == 0 ? 0 : n;
            Arrays.fill(numbers, 0);
            return length;
        }

        boolean put(int i, int v) {
            if (i < 0 || i >= length) {
                return false;
            }
            numbers[i] = bits == 8 ? v & 255 : bits == 16 ? v & 65535 : v;
            return true;
        }

        boolean hasStretch(int from, int n) {
            return from >= 0 && n >= 0 && from <= length && n <= length - from;
        }
    }

    /** Costs of lines at one size, and of the cheapest pages that end with one bar. */
    private static final class LineTable {
        private final int[] costs = new int[MOST_BARS * MOST_BARS];
        private final int[] widest = new int[MOST_BARS];
        private final int[] cheapest = new int[(MOST_LINES + 1) * (MOST_BARS + 1)];

        /** Costs of all lines that begin and end in a stretch of bars. */
        void fill(Part part, int[] rules, int size, int from, int to) {
            for (int b = from; b <= to; b++) {
                fillFrom(part, rules, size, b, to);
            }
        }

        /** Costs of lines that begin with one bar and end with another at most. */
        void fillFrom(Part part, int[] rules, int size, int from, int to) {
            int spare = rules[WIDTH];
            int letters = 0;
            widest[from] = from - 1;
            for (int b = from; b <= to; b++) {
                spare -= part.roomAt(b, size);
                if (spare < 0) {
                    break;
                }
                if (b > from && part.isMarked(b, LETTER)) {
                    letters += rules[KEPT];
                }
                int waste = b == part.bars - 1 ? 0 : spare * spare / 10;
                int wish = part.isMarked(b, WISH) ? 5 : 0;
                costs[from * MOST_BARS + b] = part.mayEndLine(b)
                        ? waste + 20 * size * size - wish + letters : NO_COST;
                widest[from] = b;
            }
        }

        boolean fits(int from, int to) {
            return to <= widest[from];
        }

        int costOf(int from, int to) {
            return costs[from * MOST_BARS + to];
        }

        /** Costs of the cheapest pages of 0, 1, .. lines at most from each bar to an end. */
        void fillPages(int from, int end, int lines) {
            for (int b = from; b <= end; b++) {
                cheapest[b] = NO_COST;
            }
            cheapest[end + 1] = 0;
            for (int most = 1; most <= lines; most++) {
                int row = most * (MOST_BARS + 1);
                cheapest[row + end + 1] = 0;
                for (int b = end; b >= from; b--) {
                    cheapest[row + b] = cheapestFrom(b, end, most);
                }
            }
        }

        private int cheapestFrom(int from, int end, int most) {
            int least = NO_COST;
            int last = Math.min(end, widest[from]);
            int row = from * MOST_BARS;
            int rest = (most - 1) * (MOST_BARS + 1) + 1;
            for (int b = from; b <= last; b++) {
                if (costs[row + b] != NO_COST && cheapest[rest + b] != NO_COST) {
                    least = Math.min(least, costs[row + b] + cheapest[rest + b]);
                }
            }
            return least;
        }

        int pageCost(int most, int from) {
            return cheapest[most * (MOST_BARS + 1) + from];
        }

        /** Where the first line of the cheapest page ends that has the fewest bars in it. */
        int firstLineEnd(int from, int end, int most) {
            int least = pageCost(most, from);
            int last = Math.min(end, widest[from]);
            for (int b = from; b <= last; b++) {
                int own = costOf(from, b);
                int rest = pageCost(most - 1, b + 1);
                if (own != NO_COST && rest != NO_COST && own + rest == least) {
                    return b;
                }
            }
            return end;
        }
    }

    /** The least cost of a page from each bar of a part to each other, and its least size. */
    private static final class PageTable {
        // A cost four times and the size: the least of these is that of
        // the least cost, and of equal costs that of the least size.
        private final int[] leasts = new int[MOST_BARS * MOST_BARS];
        int bars;
        boolean isFresh;

        void fill(Part part, int[] rules, LineTable lines) {
            bars = part.bars;
            isFresh = true;
            Arrays.fill(leasts, NO_COST);
            for (int size = 0; size < SIZES; size++) {
                lines.fill(part, rules, size, 0, bars - 1);
                for (int end = 0; end < bars; end++) {
                    if (part.mayEndLine(end)) {
                        lines.fillPages(0, end, rules[LINES]);
                        takeCheaper(lines, rules[LINES], end, size);
                    }
                }
            }
        }

        private void takeCheaper(LineTable lines, int most, int end, int size) {
            for (int from = 0; from <= end; from++) {
                int cost = lines.pageCost(most, from);
                if (cost != NO_COST) {
                    int at = from * MOST_BARS + end;
                    leasts[at] = Math.min(leasts[at], cost * 4 + size);
                }
            }
        }

        boolean hasPage(int from, int to) {
            return leasts[from * MOST_BARS + to] != NO_COST;
        }

        /** The cost of a page that there is. */
        int costOf(int from, int to) {
            return leasts[from * MOST_BARS + to] >> 2;
        }

        int sizeOf(int from, int to) {
            return leasts[from * MOST_BARS + to] & 3;
        }
    }

    /** The laying of a part; without pages there is none. */
    private static final class Laying {
        int pages;
        int lines;
        int stops;
        int turns;
        int cost;
        boolean isFresh;
        final int[] first = new int[MOST_BARS];
        final int[] last = new int[MOST_BARS];
        final int[] size = new int[MOST_BARS];
        final int[] linesOn = new int[MOST_BARS];
        final int[] costOf = new int[MOST_BARS];
        final int[] lineEnd = new int[MOST_BARS];
        final int[] turnBehind = new int[MOST_BARS];

        boolean isNone() {
            return pages == 0;
        }

        void begin() {
            pages = 0;
            lines = 0;
            stops = 0;
            turns = 0;
            cost = 0;
            isFresh = true;
            Arrays.fill(turnBehind, NO_TURN);
        }

        void addPage(int from, int to, int atSize, int pageCost, int paper) {
            if (pages < MOST_BARS) {
                cost += pageCost + paper;
                first[pages] = from;
                last[pages] = to;
                size[pages] = atSize;
                costOf[pages] = pageCost;
                linesOn[pages] = 0;
                pages++;
            }
        }

        /** A line of the page that was added last. */
        void addLine(int end) {
            if (lines < MOST_BARS && pages > 0) {
                lineEnd[lines] = end;
                lines++;
                linesOn[pages - 1]++;
            }
        }

        void addTurn(int bar, int turn) {
            turnBehind[bar] = turn;
            if (turn != NO_TURN) {
                turns++;
            }
            if (turn == STOP_TURN) {
                stops++;
            }
        }

        int ofPage(int i, int what) {
            switch (what) {
                case 0:
                    return first[i];
                case 1:
                    return last[i];
                case 2:
                    return size[i];
                case 3:
                    return linesOn[i];
                case 4:
                    return costOf[i];
                default:
                    return turnBehind[last[i]];
            }
        }

        /** The bar behind which is the i-th stop, or -1. */
        int barOfStop(int i) {
            int left = i;
            for (int bar = 0; bar < MOST_BARS; bar++) {
                if (turnBehind[bar] != STOP_TURN) {
                    continue;
                }
                if (left == 0) {
                    return bar;
                }
                left--;
            }
            return -1;
        }
    }

    /** Finds layings. */
    private static final class Engraver {
        final LineTable lines = new LineTable();
        private final int[] ease = new int[MOST_BARS];
        private final int[] starts = new int[MOST_BARS + 1];
        private final long[] worths = new long[(MOST_BARS + 1) * PAGE_STATES];
        private final byte[] pageEnds = new byte[MOST_BARS * PAGE_STATES];
        private int turning;
        private int need;
        private int paper;

        /** How long a hand is free behind each bar, the part's own by heart or its neighbour's. */
        void findEase(State state, int part, int known) {
            Part own = state.parts[part];
            for (int b = 0; b < own.bars; b++) {
                ease[b] = Math.max(own.freeBehind(b, known), state.neighbourFree(part, b));
            }
        }

        /** True if there is a laying without a stop; findEase() comes first. */
        boolean flows(PageTable table, int folds, int leastEase) {
            int bars = table.bars;
            int turns = EVEN_STATES & ~folds;
            Arrays.fill(starts, 0);
            starts[0] = 1;
            for (int from = 0; from < bars; from++) {
                if (starts[from] == 0) {
                    continue;
                }
                for (int to = from; to < bars; to++) {
                    if (!table.hasPage(from, to)) {
                        continue;
                    }
                    if (to == bars - 1) {
                        return true;
                    }
                    int going = ease[to] >= leastEase ? starts[from] : starts[from] & ~turns;
                    starts[to + 1] |= followingSet(going);
                }
            }
            return false;
        }

        private static int followingSet(int states) {
            int fromLast = (states >> PAGE_STATES - 1 & 1) << PAGE_STATES - 2;
            return states << 1 & ALL_STATES | fromLast;
        }

        private static int following(int state) {
            return state < PAGE_STATES - 1 ? state + 1 : PAGE_STATES - 2;
        }

        /** Finds the best laying from each bar on for each page state; findEase() comes first. */
        void weigh(PageTable table, int folds, int[] rules) {
            int bars = table.bars;
            turning = EVEN_STATES & ~folds;
            need = rules[NEED];
            paper = rules[PAPER];
            Arrays.fill(worths, bars * PAGE_STATES, (bars + 1) * PAGE_STATES, 0);
            for (int from = bars - 1; from >= 0; from--) {
                Arrays.fill(worths, from * PAGE_STATES, (from + 1) * PAGE_STATES, NO_WORTH);
                for (int to = from; to < bars; to++) {
                    if (table.hasPage(from, to)) {
                        takeBetter(table, from, to);
                    }
                }
            }
        }

        /** Takes a page for each state for which it is better than all shorter ones. */
        private void takeBetter(PageTable table, int from, int to) {
            long page = (table.costOf(from, to) + paper) * COST_WEIGHT + 1;
            boolean isSafe = to == table.bars - 1 || ease[to] >= need;
            for (int state = 0; state < PAGE_STATES; state++) {
                long rest = worths[(to + 1) * PAGE_STATES + following(state)];
                if (rest == NO_WORTH) {
                    continue;
                }
                long stop = isSafe || (turning >> state & 1) == 0 ? 0 : STOP_WEIGHT;
                int place = from * PAGE_STATES + state;
                if (rest + page + stop < worths[place]) {
                    worths[place] = rest + page + stop;
                    pageEnds[place] = (byte) to;
                }
            }
        }

        private int turnOf(PageTable table, int state, int to) {
            if (to == table.bars - 1 || (turning >> state & 1) == 0) {
                return NO_TURN;
            }
            return ease[to] >= need ? SAFE_TURN : STOP_TURN;
        }

        /** Lays the part as weigh() found it best. */
        void layOut(Part own, int[] rules, PageTable table, Laying laying) {
            laying.begin();
            if (table.bars == 0 || worths[0] == NO_WORTH) {
                return;
            }
            int from = 0;
            int state = 0;
            for (int page = 0; page < MOST_BARS && from < table.bars; page++) {
                int to = pageEnds[from * PAGE_STATES + state];
                int size = table.sizeOf(from, to);
                laying.addPage(from, to, size, table.costOf(from, to), paper);
                laying.addTurn(to, turnOf(table, state, to));
                lines.fill(own, rules, size, from, to);
                lines.fillPages(from, to, rules[LINES]);
                addLines(from, to, rules[LINES], laying);
                from = to + 1;
                state = following(state);
            }
        }

        private void addLines(int first, int last, int most, Laying laying) {
            int from = first;
            for (int left = most; left > 0 && from <= last; left--) {
                int end = lines.firstLineEnd(from, last, left);
                laying.addLine(end);
                from = end + 1;
            }
        }
    }
}
