import java.io.IOException;
import java.nio.file.Files;
import java.nio.file.Path;
import java.util.Set;
import java.util.TreeSet;
import java.util.regex.Matcher;
import java.util.regex.Pattern;

/** The example of README.md: each answer that it tells behind a call is the one that the class gives. */
public final class ReadmeTest {
    private static final Check C = new Check("ReadmeTest");
    private static final Pattern BLOCK = Pattern.compile("(?s)```java\n(.*?)```");
    private static final Pattern CALL = Pattern.compile("x\\.(\\w+)\\(([^)]*)\\);\\s*// (-?\\d+)");
    private static final Pattern HEX = Pattern.compile("0x[0-9a-fA-F]+");

    public static void main(String[] args) throws IOException {
        String readme = Files.readString(Path.of("README.md"));
        Matcher block = BLOCK.matcher(readme);
        Set<String> shown = new TreeSet<>();
        while (block.find()) {
            run(block.group(1), shown);
        }
        for (String must : new String[] {"new", "feed", "read", "best", "laid", "ends", "status",
            "a finding", "a fault"}) {
            C.due("README.md shows " + must, shown.contains(must) ? 1 : 0, 1);
        }
        saysHow(readme);
        C.finish();
    }

    private static void run(String block, Set<String> shown) {
        PageTurns x = null;
        for (String line : block.split("\n")) {
            if (line.contains("x = new PageTurns()")) {
                x = new PageTurns();
                shown.add("new");
            }
            boolean hasCall = line.contains("x.");
            Matcher call = CALL.matcher(line);
            boolean isTold = x != null && call.find();
            C.due("a call on an object, with its answer: " + line, hasCall == isTold ? 1 : 0, 1);
            if (isTold) {
                take(x, call, shown);
            }
        }
    }

    private static void take(PageTurns x, Matcher call, Set<String> shown) {
        String name = call.group(1);
        int told = Integer.parseInt(call.group(3));
        String text = name + "(" + HEX.matcher(call.group(2)).replaceAll(h -> "" + Integer.decode(h.group())) + ")";
        int got = Calls.call(x, text);
        C.due(text, got, told);
        shown.add(name);
        if (got < -1000000) {
            shown.add("a finding");
        } else if (got < 0 && name.equals("read")) {
            shown.add("a fault");
        }
    }

    /** Findings with their numbers, and how the tests are run. */
    private static void saysHow(String readme) {
        String[] findings = {"BEYOND", "FULL", "KIND", "NONE", "STATE", "MISSING", "SIZE"};
        for (int f = 0; f < findings.length; f++) {
            String row = "| " + (-1000001 - f) + " | " + findings[f] + " | " + f + " |";
            C.due("README.md has " + row, readme.contains(row) ? 1 : 0, 1);
        }
        for (String must : new String[] {"answer < -1000000", ".ci/run", "../shared/tests", "ReadmeTest"}) {
            C.due("README.md says " + must, readme.contains(must) ? 1 : 0, 1);
        }
    }
}
