import java.io.IOException;
import java.lang.reflect.Field;
import java.lang.reflect.Method;
import java.lang.reflect.Modifier;
import java.nio.file.Files;
import java.nio.file.Path;
import java.util.ArrayList;
import java.util.Arrays;
import java.util.HashSet;
import java.util.List;
import java.util.Set;
import java.util.TreeSet;
import java.util.regex.Matcher;
import java.util.regex.Pattern;

/** The face of the class, and those rules of LANGUAGE.md that can be seen without running it. */
public final class FormTest {
    private static final Check C = new Check("FormTest");
    private static final String[] FACE = {"set 3", "rule 2", "feed 2", "wipe 0", "read 1", "bar 3", "change 4",
        "cut 3", "free 3", "room 3", "line 4", "page 4", "best 2", "laid 3", "ends 2", "stop 2", "hearts 1",
        "folds 1", "needs 1", "together 2", "all 1", "lay 3", "breakOf 2", "clear 1", "price 1", "judge 1",
        "hold 2", "as 2", "sheet 3", "write 3", "copy 5", "rooms 2", "pages 2", "image 0", "undo 0", "tear 0",
        "count 1", "status 1"};
    private static final Set<String> LIBRARY = Set.of("Math.min", "Math.max", "Integer.bitCount",
            "System.arraycopy", "Arrays.fill");
    private static final Set<Class<?>> CONSTANTS = Set.of(int.class, long.class, boolean.class, char.class,
            String.class, int[].class, long[].class, char[].class, byte[].class);

    public static void main(String[] args) throws IOException {
        face();
        List<Class<?>> classes = new ArrayList<>(List.of(PageTurns.class));
        classes.addAll(Arrays.asList(PageTurns.class.getDeclaredClasses()));
        C.due("at most 12 classes", classes.size() <= 12 ? 1 : 0, 1);
        for (Class<?> c : classes) {
            fieldsAndMethods(c);
        }
        String source = Files.readString(Path.of("src/main/java/PageTurns.java"));
        words(source);
        loops(source);
        lengths(source);
        C.finish();
    }

    private static void holds(String what, boolean does) {
        C.due(what, does ? 1 : 0, 1);
    }

    private static void face() {
        Set<String> want = new TreeSet<>(Arrays.asList(FACE));
        Set<String> got = new TreeSet<>();
        for (Method m : PageTurns.class.getDeclaredMethods()) {
            if (Modifier.isPrivate(m.getModifiers())) {
                continue;
            }
            holds(m + " is public", Modifier.isPublic(m.getModifiers()) && !Modifier.isStatic(m.getModifiers()));
            holds(m + " answers int", m.getReturnType() == int.class);
            for (Class<?> p : m.getParameterTypes()) {
                holds(m + " takes int", p == int.class);
            }
            got.add(m.getName() + " " + m.getParameterCount());
        }
        holds("the face is that of the document: " + got, got.equals(want));
        holds("public and final", Modifier.isFinal(PageTurns.class.getModifiers())
                && Modifier.isPublic(PageTurns.class.getModifiers()));
        holds("one constructor", PageTurns.class.getDeclaredConstructors().length == 1
                && PageTurns.class.getConstructors().length == 1);
    }

    private static void fieldsAndMethods(Class<?> c) {
        Set<String> faceNames = new HashSet<>();
        for (String f : FACE) {
            faceNames.add(f.split(" ")[0]);
        }
        int fields = 0;
        for (Field f : c.getDeclaredFields()) {
            boolean isStatic = Modifier.isStatic(f.getModifiers());
            fields += isStatic ? 0 : 1;
            holds(f + " is final if static", !isStatic || Modifier.isFinal(f.getModifiers()));
            holds(f + " is of a constant's type if static", !isStatic || CONSTANTS.contains(f.getType()));
            holds(f + " is private", c != PageTurns.class || Modifier.isPrivate(f.getModifiers()));
        }
        holds(c + " has some twenty fields at most", fields <= 20);
        for (Method m : c.getDeclaredMethods()) {
            holds(m + " takes seven at most", m.getParameterCount() <= 7);
            holds(m + " bears no name of the face", c == PageTurns.class && Modifier.isPublic(m.getModifiers())
                    || !faceNames.contains(m.getName()));
        }
        holds(c + " is static", c == PageTurns.class || Modifier.isStatic(c.getModifiers()));
    }

    private static void words(String source) {
        for (int i = 0; i < source.length(); i++) {
            if (source.charAt(i) > 126) {
                holds("a sign of number " + (int) source.charAt(i), false);
            }
        }
        String code = source.replaceAll("(?s)/\\*.*?\\*/", "").replaceAll("//[^\n]*", "")
                .replaceAll("\"[^\"\n]*\"", "\"\"").replaceAll("'[^'\n]*'", "' '");
        String[] ruledOut = {"throw", "throws", "try", "catch", "finally", "synchronized", "assert", "package",
            "protected", "volatile", "native", "yield", "var", "goto", "transient", "Object", "Exact", "random"};
        for (String w : ruledOut) {
            holds("no " + w, !Pattern.compile("\\b" + w + "\\b").matcher(code).find());
        }
        for (String w : new String[] {"->", "::", "static {", "@", "Exact(", "[][][]"}) {
            holds("no " + w, !code.contains(w));
        }
        Matcher imports = Pattern.compile("import [^;]*;").matcher(code);
        while (imports.find()) {
            holds(imports.group(), imports.group().equals("import java.util.Arrays;"));
        }
        Matcher uses = Pattern.compile("\\b(Math|Integer|Long|System|Arrays|String|Character)\\.(\\w+)").matcher(code);
        while (uses.find()) {
            holds(uses.group() + " is allowed", LIBRARY.contains(uses.group()));
        }
    }

    /** Rule 9: what a loop counts by stands in its own head, and it has a bound. */
    private static void loops(String source) {
        Matcher heads = Pattern.compile("\\bfor \\((.*)\\) \\{").matcher(source);
        Pattern counted = Pattern.compile("int (\\w+) = [^;]*; [^;]*\\b\\1 (<|<=|>|>=) [^;]*; "
                + "\\1(\\+\\+|--| \\+= \\d+| -= \\d+| >>= \\d+)");
        int found = 0;
        while (heads.find()) {
            found++;
            holds("a counter against a bound: " + heads.group(), counted.matcher(heads.group(1)).matches());
        }
        holds("loops were found", found > 0);
        Matcher whiles = Pattern.compile("\\bwhile \\((\\w+) < length && .*\\) \\{\\s*\\1\\+\\+;\\s*\\}").matcher(source);
        int bounded = 0;
        while (whiles.find()) {
            bounded++;
        }
        holds("each while counts up to a length", source.split("\\bwhile \\(").length - 1 == bounded);
        holds("no do", !source.contains(" do {"));
    }

    private static void lengths(String source) {
        String[] lines = source.split("\n");
        Pattern head = Pattern.compile("^( +)[a-z].*\\) \\{$");
        for (int i = 0; i < lines.length; i++) {
            Matcher m = head.matcher(lines[i]);
            if (!m.matches() || m.group(1).length() > 8) {
                continue;
            }
            int end = i;
            while (end < lines.length && !lines[end].equals(m.group(1) + "}")) {
                end++;
            }
            holds(lines[i].trim() + " is short", end - i + 1 <= 60);
        }
    }
}
