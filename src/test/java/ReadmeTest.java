import java.io.IOException;
import java.lang.reflect.Method;
import java.lang.reflect.Modifier;
import java.nio.file.Files;
import java.nio.file.Path;
import java.util.regex.Matcher;
import java.util.regex.Pattern;
import java.util.stream.Stream;

/** README.md: its example answers as it says, and it names each call and each test. */
public final class ReadmeTest {
    /** The example, line by line as it stands there; the line's answer behind it. */
    private static void example(String readme) {
        Check.sentence("README.md: the example");
        HeadsByHair x = new HeadsByHair();
        int coin = x.coin(7, 4);
        says(readme, "int coin = x.coin(7, 4);", coin);
        int hand = x.hand(10, 3);
        says(readme, "int hand = x.hand(10, 3);", hand);
        for (char c : "turn 50 t=1&r>11;catch 2".toCharArray()) x.feed(c, 1);
        stands(readme, "for (char c : \"turn 50 t=1&r>11;catch 2\".toCharArray()) x.feed(c, 1);");
        int law = x.law(1, 0);
        says(readme, "int law = x.law(1, 0);", law);
        says(readme, "int comes = x.toss(law, hand, coin, 12, 0);", x.toss(law, hand, coin, 12, 0));
        says(readme, "int ticks = x.toss(law, hand, coin, 12, 3);", x.toss(law, hand, coin, 12, 3));
        says(readme, "long above = x.same(law, hand, coin, 0);", x.same(law, hand, coin, 0));
        says(readme, "long below = x.same(law, hand, coin, 1);", x.same(law, hand, coin, 1));
        says(readme, "int worth = x.worth(law, hand, coin, 0);", x.worth(law, hand, coin, 0));
        says(readme, "x.feed(0x7475726E20357230L, 8);", x.feed(0x7475726E20357230L, 8));
        says(readme, "int fault = x.law(1, 0);", x.law(1, 0));
        says(readme, "int none = x.told(5, 0);", x.told(5, 0));
        Check.due("lines of the example with an answer", Pattern.compile("; +// ").matcher(readme).results().count(), 11);
    }

    private static void stands(String readme, String line) {
        Check.due("'" + line + "' stands there", "" + readme.contains("\n" + line), "true");
    }

    /** The page has the line with this answer as the first thing of its comment. */
    private static void says(String readme, String line, long answer) {
        Matcher m = Pattern.compile("\n" + Pattern.quote(line) + " +// (-?[0-9]+): ").matcher(readme);
        Check.due(line, m.find() ? m.group(1) : "nothing", Long.toString(answer));
    }

    private static void namesCalls(String readme) {
        Check.sentence("README.md: what there is to call");
        for (Method m : HeadsByHair.class.getDeclaredMethods()) {
            if (!Modifier.isPublic(m.getModifiers())) continue;
            boolean isNamed = Pattern.compile("\n\\|.*`" + m.getName() + "`").matcher(readme).find();
            Check.due("names " + m.getName(), "" + isNamed, "true");
        }
    }

    private static void namesTests(String readme, Path root) throws IOException {
        Check.sentence("README.md: tests");
        try (Stream<Path> tests = Files.list(root.resolve("src/test/java"))) {
            for (Path test : tests.toList()) {
                String name = "\n- `src/test/java/" + test.getFileName() + "`";
                Check.due("names " + test.getFileName(), "" + readme.contains(name), "true");
            }
        }
        Matcher named = Pattern.compile("`(src/[^`]*)`").matcher(readme);
        while (named.find()) {
            Check.due(named.group(1) + " is there", "" + Files.exists(root.resolve(named.group(1))), "true");
        }
    }

    public static void main(String[] args) throws IOException {
        Path program = Path.of(System.getProperty("program", "src/main/java/HeadsByHair.java"));
        Path root = program.toAbsolutePath().getParent().getParent().getParent().getParent();
        String readme = Files.readString(root.resolve("README.md")).replace("\r\n", "\n");
        example(readme);
        namesCalls(readme);
        namesTests(readme, root);
        Check.end("ReadmeTest");
    }
}
