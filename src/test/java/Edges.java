import java.io.IOException;
import java.nio.file.Files;
import java.nio.file.Path;
import java.util.ArrayList;
import java.util.Arrays;
import java.util.List;
import java.util.function.Supplier;
import java.util.regex.Matcher;
import java.util.regex.Pattern;

/**
 * Tests of single sentences of the document. Each sentence is quoted, and
 * what is asked behind it is its test. At the end no words of the sections
 * that were gone through may be left without one.
 */
final class Edges {
    static final int[] NO_PART = {-1, 4, Integer.MIN_VALUE, Integer.MAX_VALUE};

    private static final Path DOCUMENT = Path.of("../shared/DOC.md");

    private static final class Sentence {
        final String place;
        final String words;
        final String method;
        int asked;

        Sentence(String place, String words, String method) {
            this.place = place;
            this.words = words;
            this.method = method;
        }
    }

    private final String name;
    private final List<Sentence> sentences = new ArrayList<>();
    private Sentence now;
    private int asked;
    private int wrong;

    Edges(String name) {
        this.name = name;
    }

    /** What is asked from here on is the test of these words; places are W, T0 to T4, and 1 to 39. */
    void says(String place, String words) {
        String method = StackWalker.getInstance().walk(frames -> frames.skip(1).findFirst().get().getMethodName());
        now = new Sentence(place, words, method);
        sentences.add(now);
    }

    void due(String call, long got, long want) {
        asked++;
        now.asked++;
        if (got != want) {
            fail(call + " answered " + got + ", due is " + want);
        }
    }

    void due(PageTurns x, String call, long want) {
        due(call, Calls.call(x, call), want);
    }

    /** The same call with each of these in the place of the question mark. */
    void due(PageTurns x, String call, long want, int... values) {
        for (int v : values) {
            due(x, call.replace("?", String.valueOf(v)), want);
        }
    }

    /** The call answers a finding and changes nothing but status(). */
    void refused(Supplier<PageTurns> state, String call, int finding) {
        like(state, call, finding);
    }

    void refused(Supplier<PageTurns> state, String call, int finding, int... values) {
        for (int v : values) {
            refused(state, call.replace("?", String.valueOf(v)), finding);
        }
    }

    /** Calls that only tell something change nothing. */
    void keeps(Supplier<PageTurns> state, String... calls) {
        for (String call : calls) {
            like(state, call, Calls.call(state.get(), call));
        }
    }

    /** The call gives this answer and does what others do; a finding is counted, and no other. */
    void like(Supplier<PageTurns> state, String call, int answer, String... others) {
        due(call, Calls.call(state.get(), call), answer);
        List<List<String>> want = Witness.see(state, others);
        List<List<String>> got = Witness.see(state, call);
        for (int v = 0; v < want.size(); v++) {
            asked++;
            now.asked++;
            if (!want.get(v).equals(got.get(v))) {
                fail("behind " + call + ": " + difference(got.get(v), want.get(v)));
            }
        }
        int[] counts = Witness.status(state, others);
        if (answer < -1000000) {
            counts[0]++;
            counts[-1000001 - answer + 1]++;
        }
        int[] found = Witness.status(state, call);
        asked++;
        now.asked++;
        if (!Arrays.equals(counts, found)) {
            fail("status() behind " + call + " tells " + Arrays.toString(found) + ", due is " + Arrays.toString(counts));
        }
    }

    private static String difference(List<String> got, List<String> want) {
        for (int i = 0; i < Math.min(got.size(), want.size()); i++) {
            if (!got.get(i).equals(want.get(i))) {
                return got.get(i) + ", due is " + want.get(i);
            }
        }
        return got.size() + " answers, due are " + want.size();
    }

    private void fail(String what) {
        wrong++;
        System.out.println(name + ": " + now.place + ": \"" + now.words + "\": " + what);
    }

    /** Ends the test; the sections are those of which every word is to be quoted. */
    void finish(String... sections) throws IOException {
        boolean isBare = false;
        for (Sentence s : sentences) {
            System.out.println("  " + s.place + ": \"" + s.words + "\": " + name + "." + s.method + ", "
                    + s.asked + " answers");
            isBare |= s.asked == 0;
        }
        if (isBare) {
            wrong++;
            System.out.println(name + ": a sentence has no test");
        }
        if (Files.exists(DOCUMENT)) {
            holdAgainstDocument(Files.readString(DOCUMENT), sections);
        } else {
            System.out.println(name + ": " + DOCUMENT + " isn't here: quotes were not held against it");
        }
        System.out.println(name + ": " + sentences.size() + " sentences, " + asked + " answers, " + wrong + " not as due");
        if (wrong > 0 || asked == 0) {
            System.exit(1);
        }
    }

    private void holdAgainstDocument(String document, String... sections) {
        for (Sentence s : sentences) {
            if (!section(document, s.place).contains(s.words)) {
                now = s;
                fail("the document does not say so");
            }
        }
        for (String place : sections) {
            StringBuilder left = new StringBuilder(section(document, place));
            for (Sentence s : sentences) {
                int at = s.place.equals(place) ? left.indexOf(s.words) : -1;
                if (at >= 0) {
                    left.replace(at, at + s.words.length(), "|");
                }
            }
            if (!left.toString().matches("[| ]*")) {
                wrong++;
                System.out.println(name + ": " + place + ": without a test: " + left);
            }
        }
    }

    /** The text of one section, without its heading and signature. */
    private static String section(String document, String place) {
        String text;
        if (place.equals("W")) {
            text = between(document, "## What it is", "## The public face");
        } else if (place.startsWith("T")) {
            text = between(document, "## Terms", "Ahead of the calls `set`");
            int n = Integer.parseInt(place.substring(1));
            String from = n == 0 ? "## Terms" : "\n" + n + ". ";
            String to = n == 4 ? "Ahead of the calls `set`" : "\n" + (n + 1) + ". ";
            text = between(document, from, to);
        } else {
            Matcher m = Pattern.compile("## Promise " + place + ": .*\n\n`.*?`: (.*)\n").matcher(document);
            text = m.find() ? m.group(1) : "";
        }
        return text.replace("```text", "").replace("```", "").replaceAll("\\s+", " ").trim();
    }

    private static String between(String document, String from, String to) {
        int start = document.indexOf(from);
        int end = document.indexOf(to, start);
        return start < 0 || end < 0 ? "" : document.substring(start + from.length(), end);
    }
}
