import java.lang.reflect.Method;
import java.lang.reflect.Modifier;
import java.nio.file.Files;
import java.nio.file.Path;

/** README.md says how to use the class: its example answers so, and it names every call and test. */
public final class ReadmeTest {
    private static String readme;

    private ReadmeTest() {
    }

    public static void main(String[] args) throws Exception {
        readme = Files.readString(Path.of("README.md"));
        example();
        names();
        Checks.finish();
    }

    private static void example() {
        StrangeKnives x = new StrangeKnives();
        line("x.feed(0x706c6169, 0x6e203020, 0x313b706c, 0x61696e20, 0x3220353b); // 20:",
                x.feed(0x706c6169, 0x6e203020, 0x313b706c, 0x61696e20, 0x3220353b), 20);
        line("x.feed(0x6c6f6166, 0x20302039, 0x20302039, 0x20303b20, 0x20202020); // 40:",
                x.feed(0x6c6f6166, 0x20302039, 0x20302039, 0x20303b20, 0x20202020), 40);
        line("x.town(35);      // 0:", x.town(35), 0);
        line("x.may(1, 0);     // 0:", x.may(1, 0), 0);
        line("x.may(0, 0);     // 1:", x.may(0, 0), 1);
        line("x.slice(1, 0, 0); // 9:", x.slice(1, 0, 0), 9);
        line("x.cut(1, 0);     // true", x.cut(1, 0) ? 1 : 0, 1);
        line("x.may(1, 0);     // 6:", x.may(1, 0), 6);
        line("x.undo();        // 0:", x.undo(), 0);
    }

    private static void line(String words, int got, int want) {
        Checks.due("README.md holds " + words, readme.contains(words), true);
        Checks.due(words, got, want);
    }

    private static void names() throws Exception {
        for (Method method : StrangeKnives.class.getDeclaredMethods()) {
            if (Modifier.isPublic(method.getModifiers())) {
                String name = "`" + method.getName() + "`";
                Checks.due("README.md names " + name, readme.contains(name), true);
            }
        }
        for (String name : Path.of("src/test/java").toFile().list()) {
            if (name.endsWith("Test.java")) {
                String test = "`" + name.replace(".java", "") + "`";
                Checks.due("README.md names " + test, readme.contains(test), true);
            }
        }
    }
}
