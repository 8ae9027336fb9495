import java.util.ArrayList;
import java.util.HashMap;
import java.util.List;
import java.util.Map;
import java.util.function.Supplier;

/**
 * Tells all that can be told of an object. What it asks spoils the object, and
 * an object lasts for 512 calls: so each view is taken of one made anew.
 */
final class Witness {
    private static final int VIEWS = 8;
    private static final Map<List<Object>, List<List<String>>> SEEN = new HashMap<>();

    private final PageTurns x;
    private final List<String> told = new ArrayList<>();

    private Witness(PageTurns x) {
        this.x = x;
    }

    /** All views of what an object in a state is after some calls. */
    static List<List<String>> see(Supplier<PageTurns> state, String... calls) {
        List<Object> key = List.of(state, List.of(calls));
        return SEEN.computeIfAbsent(key, k -> seeAnew(state, calls));
    }

    private static List<List<String>> seeAnew(Supplier<PageTurns> state, String... calls) {
        List<List<String>> views = new ArrayList<>();
        for (int view = 0; view < VIEWS; view++) {
            Witness w = new Witness(state.get());
            for (String call : calls) {
                Calls.call(w.x, call);
            }
            w.look(view);
            views.add(w.told);
        }
        return views;
    }

    /** What status(-1) to status(6) tell in that state after these calls. */
    static int[] status(Supplier<PageTurns> state, String... calls) {
        PageTurns y = state.get();
        for (String call : calls) {
            Calls.call(y, call);
        }
        int[] found = new int[8];
        for (int which = -1; which < 7; which++) {
            found[which + 1] = y.status(which);
        }
        return found;
    }

    private void look(int view) {
        switch (view) {
            case 0: facts(); break;
            case 1: bars(0, 40); bars(1, 40); break;
            case 2: bars(2, 40); bars(3, 40); break;
            case 3: layings(); break;
            case 4: tape(); break;
            case 5: numbersOfSheets(); break;
            case 6: formOfSheets(); break;
            default: image(); break;
        }
    }

    private int ask(String call) {
        int answer = Calls.call(x, call);
        told.add(call + " " + answer);
        return answer;
    }

    private void facts() {
        for (int what = 0; what < 4; what++) {
            ask("count(" + what + ")");
        }
        traitsAndRules();
        spots();
        for (int k = 0; k <= 30; k++) {
            for (int what = 0; what < 3; what++) {
                ask("breakOf(" + k + ", " + what + ")");
            }
        }
    }

    private void traitsAndRules() {
        int[] traits = {60, 0, -1, 0};
        for (int p = 0; p < 4; p++) {
            for (int what = 0; what < 4; what++) {
                ask("set(" + p + ", " + what + ", " + traits[what] + ")");
            }
        }
        int[] rules = {60, 3, 150, 0, 50};
        for (int what = 0; what < 5; what++) {
            ask("rule(" + what + ", " + rules[what] + ")");
        }
    }

    private void spots() {
        for (int s = 0; s < 10; s++) {
            ask("as(" + s + ", 0)");
        }
    }

    private void bars(int part, int most) {
        for (int b = 0; b <= most; b++) {
            for (int what = 0; what < 4; what++) {
                ask("bar(" + part + ", " + b + ", " + what + ")");
            }
        }
    }

    private void layings() {
        for (int p = 0; p < 4; p++) {
            for (int i = 0; i < 8; i++) {
                ask("ends(" + p + ", " + i + ")");
            }
            for (int what = 0; what < 5; what++) {
                ask("best(" + p + ", " + what + ")");
            }
            for (int i = 0; i < 4; i++) {
                for (int what = 0; what < 6; what++) {
                    ask("laid(" + p + ", " + i + ", " + what + ")");
                }
            }
            ask("stop(" + p + ", 0)");
            ask("stop(" + p + ", 1)");
            for (String name : new String[] {"hearts", "folds", "needs", "price", "judge"}) {
                ask(name + "(" + p + ")");
            }
            ask("together(" + p + ", " + (p + 1) % 4 + ")");
            ask("all(" + p + ")");
        }
        for (int k = 0; k < 30; k++) {
            ask("breakOf(" + k + ", 3)");
            ask("breakOf(" + k + ", 4)");
        }
    }

    /** Makes part 3 empty. */
    private void empty() {
        x.clear(3);
        for (int n = 0; n < 40 && x.cut(3, 0, 1) >= 0; n++) {
            continue;
        }
    }

    private void fortyBars() {
        empty();
        x.wipe();
        Check.read(x, 3, "8(5(busy 60))");
    }

    private void tape() {
        empty();
        ask("count(2)");
        ask("read(3)");
        ask("count(2)");
        bars(3, 40);
    }

    private void numbersOfSheets() {
        fortyBars();
        for (int s = 0; s < 4; s++) {
            ask("rooms(" + s + ", 3)");
            for (int b = 0; b < 40; b++) {
                ask("bar(3, " + b + ", 0)");
            }
        }
    }

    /** Whether sheets are missing, how long they are, and of how many bits. */
    private void formOfSheets() {
        fortyBars();
        for (int s = 0; s < 4; s++) {
            for (int i = 0; i <= 40; i++) {
                ask("write(" + s + ", " + i + ", 65543)");
            }
            ask("rooms(" + s + ", 3)");
            ask("write(" + s + ", 0, 265)");
            ask("rooms(" + s + ", 3)");
        }
    }

    private void image() {
        ask("undo()");
        for (int p = 0; p < 4; p++) {
            bars(p, 8);
        }
        for (int what = 0; what < 4; what++) {
            ask("count(" + what + ")");
        }
        traitsAndRules();
        spots();
        for (int k = 0; k <= 30; k++) {
            ask("breakOf(" + k + ", 0)");
            ask("breakOf(" + k + ", 2)");
        }
        ask("tear()");
        ask("undo()");
    }
}
