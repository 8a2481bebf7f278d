import java.lang.management.ManagementFactory;
import java.lang.reflect.InvocationTargetException;
import java.lang.reflect.Method;
import java.lang.reflect.Modifier;
import java.nio.file.Files;
import java.nio.file.Path;
import java.util.ArrayList;
import java.util.Arrays;
import java.util.List;
import java.util.Set;
import java.util.TreeSet;
import java.util.regex.Matcher;
import java.util.regex.Pattern;

/** The public face; what of LANGUAGE.md can be seen from outside; extreme arguments; room. */
public final class FaceTest {
    private static int asked = 0, wrong = 0;

    private static void due(String what, boolean isSo) {
        asked++;
        if (isSo) return;
        wrong++;
        System.out.println("not so: " + what);
    }

    // ---- the face

    private static final String[] FACE = {
        "int coin(int, int)", "int hand(int, int)", "int of(int, int)", "int counts(int, int, int, int)",
        "int feed(long, int)", "int law(int, int)", "int told(int, int)", "int toss(int, int, int, int, int)",
        "int up(int, int, int, int, int)", "long same(int, int, int, int)", "long heads(int, int, int, int, int)",
        "int steady(int, int, int, int)", "int differ()", "long far(int, int, int)", "int need(int, int, int)",
        "int row(int)", "int runs(int)", "int made(int)", "int worth(int, int, int, int)", "int fair(int, int)",
        "int learns(int, int, int, int)", "int act(int, int, int)", "int trace(int)", "int as(int, int)",
        "int image()", "int undo()", "int count(int)"};

    private static String faceOf(Method m) {
        List<String> types = new ArrayList<>();
        for (Class<?> type : m.getParameterTypes()) types.add(type.getName());
        return m.getReturnType().getName() + " " + m.getName() + "(" + String.join(", ", types) + ")";
    }

    private static void face() {
        Class<?> c = HeadsByHair.class;
        due("the class is public and final", Modifier.isPublic(c.getModifiers()) && Modifier.isFinal(c.getModifiers()));
        due("one constructor, public, of nothing", c.getDeclaredConstructors().length == 1
            && c.getConstructors().length == 1 && c.getConstructors()[0].getParameterCount() == 0);
        Set<String> open = new TreeSet<>(), names = new TreeSet<>();
        for (Method m : c.getDeclaredMethods()) {
            if (Modifier.isPrivate(m.getModifiers()) || m.isSynthetic()) continue;
            due(m.getName() + " is public", Modifier.isPublic(m.getModifiers()));
            open.add(faceOf(m));
            names.add(m.getName());
        }
        due("the methods are the document's: " + open, open.equals(new TreeSet<>(Arrays.asList(FACE))));
        noPrivateNamesake(c, names);
        Set<String> constants = new TreeSet<>();
        for (var f : c.getDeclaredFields()) {
            if (Modifier.isPrivate(f.getModifiers())) {
                due(f.getName() + " is final if static", !Modifier.isStatic(f.getModifiers()) || Modifier.isFinal(f.getModifiers()));
                continue;
            }
            constants.add(Modifier.toString(f.getModifiers()) + " " + f.getType() + " " + f.getName());
        }
        due("the constants are the document's: " + constants, constants.equals(Set.of(
            "public static final int NONE", "public static final int BAD", "public static final int STATE",
            "public static final int FULL", "public static final long NO")));
    }

    private static void noPrivateNamesake(Class<?> c, Set<String> names) {
        for (Method m : c.getDeclaredMethods()) {
            boolean isOpen = c == HeadsByHair.class && Modifier.isPublic(m.getModifiers());
            due(m.getName() + " of " + c.getName() + " has a name of its own", isOpen || !names.contains(m.getName()));
        }
        for (Class<?> inside : c.getDeclaredClasses()) {
            due(inside.getName() + " is static", Modifier.isStatic(inside.getModifiers()));
            due(inside.getName() + " is not open", !Modifier.isPublic(inside.getModifiers())
                && !Modifier.isProtected(inside.getModifiers()));
            due(inside.getName() + " has some twenty fields", inside.getDeclaredFields().length <= 20);
            noPrivateNamesake(inside, names);
        }
    }

    // ---- the text

    /** The text without what stands in comments and quotes. */
    private static String bare(String text) {
        return text.replaceAll("\"(\\\\.|[^\"\\\\])*\"|'(\\\\.|[^'\\\\])'|//[^\n]*|(?s:/\\*.*?\\*/)", " ");
    }

    private static void language() throws Exception {
        Path path = Path.of(System.getProperty("program", "src/main/java/HeadsByHair.java"));
        String text = Files.readString(path), bare = bare(text);
        due("signs 1 to 127", text.chars().allMatch(c -> c > 0 && c < 128));
        String[] words = {"package", "throw", "throws", "try", "catch", "finally", "synchronized", "assert",
            "protected", "volatile", "transient", "native", "var", "Object", "System.out", "Thread", "Random"};
        for (String word : words) {
            due("no " + word, !Pattern.compile("\\b" + Pattern.quote(word) + "\\b").matcher(bare).find());
        }
        due("no lambda, no method reference", !bare.contains("->") && !bare.contains("::"));
        due("none of those whose name ends in Exact", !Pattern.compile("Exact\\b").matcher(bare).find());
        Matcher imports = Pattern.compile("import ([^;]*);").matcher(bare);
        while (imports.find()) {
            due("import " + imports.group(1), Set.of("java.util.Arrays", "java.util.List", "java.util.ArrayList")
                .contains(imports.group(1)));
        }
        Matcher calls = Pattern.compile("\\b(Math|System|Arrays|Integer|Long|String)\\.([A-Za-z_]+)").matcher(bare);
        while (calls.find()) {
            due("call of " + calls.group(), Set.of("Math.min", "Math.max", "Math.abs", "System.arraycopy",
                "Arrays.copyOf", "Long.MIN_VALUE").contains(calls.group()));
        }
        due("at most some twelve classes", Pattern.compile("\\bclass \\w+").matcher(bare).results().count() <= 12);
        due("static only private, but for the constants",
            Pattern.compile("public static").matcher(bare).results().count() == 2);
        lengths(text);
    }

    /** Methods begin at an indent of 4 or 8 and end with a brace at the same one. */
    private static void lengths(String text) {
        String[] lines = text.split("\n");
        for (int k = 0; k < lines.length; k++) {
            Matcher m = Pattern.compile("^( {4}| {8})[^ /*@].*\\((.*)\\) \\{$").matcher(lines[k]);
            if (!m.find()) continue;
            int end = k;
            while (end < lines.length && !lines[end].equals(m.group(1) + "}")) end++;
            due("short: " + lines[k].trim(), end - k <= 60);
            due("seven parameters at most: " + lines[k].trim(), m.group(2).split(",").length <= 7);
        }
    }

    // ---- extreme arguments, in a new object and in a full one

    private static HeadsByHair full() {
        HeadsByHair x = new HeadsByHair();
        for (int k = 0; k < 6; k++) x.coin(9 - k, k);
        for (int k = 0; k < 6; k++) x.hand(30 - 5 * k, 9);
        for (int k = 0; k < 6; k++) for (int c = 0; c < 6; c++) x.counts(k, c, 1 + k * 5, k);
        for (int k = 0; k < 8; k++) {
            Check.law(x, "turn 99 r>1|!(t<9&e=3);lean 9 b>2;catch 99", k % 7, k);
        }
        for (int k = 0; k < 16; k++) x.row(k / 3 % 2);
        Check.feed(x, "x".repeat(120));
        x.image();
        return x;
    }

    private static final int[] ODD = {Integer.MIN_VALUE, -1001, -1, 0, 1, 5, 7, 40, 100, 1000, Integer.MAX_VALUE};

    /** All mixes of odd arguments; the object is made anew ahead of its 512th call. */
    private static void extremes(boolean isFull) throws Exception {
        for (Method m : HeadsByHair.class.getMethods()) {
            if (m.getDeclaringClass() != HeadsByHair.class) continue;
            HeadsByHair x = isFull ? full() : new HeadsByHair();
            int n = m.getParameterCount();
            int mixes = (int) Math.pow(ODD.length, n), calls = 0;
            for (int mix = 0; mix < mixes; mix++) {
                // A tenth of the mixes of five is plenty.
                if (n == 5 && mix % 10 != 3) continue;
                if (++calls % 350 == 0) x = isFull ? full() : new HeadsByHair();
                askWith(x, m, mix);
            }
        }
    }

    private static void askWith(HeadsByHair x, Method m, int mix) throws Exception {
        Object[] args = new Object[m.getParameterCount()];
        for (int k = 0; k < args.length; k++) {
            int odd = ODD[mix % ODD.length];
            mix /= ODD.length;
            if (m.getParameterTypes()[k] == long.class) args[k] = (long) odd << 31;
            else args[k] = odd;
        }
        asked++;
        try {
            m.invoke(x, args);
        } catch (InvocationTargetException e) {
            wrong++;
            System.out.println(m.getName() + Arrays.toString(args) + " threw " + e.getCause());
        }
    }

    // ---- room

    private static long allocated() {
        var threads = (com.sun.management.ThreadMXBean) ManagementFactory.getThreadMXBean();
        return threads.getCurrentThreadAllocatedBytes();
    }

    /** What makes most: LAWS of a full tape, again and again by undo(). */
    private static void room() {
        HeadsByHair x = new HeadsByHair();
        Check.feed(x, "skip " + "!!!!!r<1|".repeat(12) + "r<1");
        x.image();
        long before = allocated();
        for (int k = 0; k < 240; k++) {
            due("a LAW", x.law(0, 0) == 0);
            x.undo();
        }
        due("240 LAWS take less than 200,000 bytes", allocated() - before < 200_000);
        before = allocated();
        for (int k = 0; k < 512; k++) new HeadsByHair();
        due("512 objects take less than 3,000,000 bytes", allocated() - before < 3_000_000);
        HeadsByHair full = full();
        full.steady(0, 0, 0, 0);
        before = allocated();
        for (int k = 0; k < 70; k++) {
            full.steady(k % 8, 0, 0, k % 2);
            full.heads(k % 8, 0, 0, k, 0);
            full.need(k, k, 100 - k);
            full.act(k % 8, 2, k);
            full.undo();
        }
        due("asking takes no room", allocated() - before < 2_000);
    }

    public static void main(String[] args) throws Exception {
        face();
        language();
        extremes(false);
        extremes(true);
        room();
        System.out.println("FaceTest: " + asked + " answers, " + wrong + " not as due");
        if (wrong != 0) System.exit(1);
    }
}
