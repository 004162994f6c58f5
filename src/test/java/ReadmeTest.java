import java.io.ByteArrayOutputStream;
import java.io.IOException;
import java.io.PrintStream;
import java.net.URL;
import java.net.URLClassLoader;
import java.nio.file.Files;
import java.nio.file.Path;
import java.util.List;
import javax.tools.ToolProvider;

/** What README.md says of the class: its example, and which answers below 0 are refusals. Run in the project's root. */
final class ReadmeTest {
    private static final Due due = new Due();

    public static void main(String[] args) throws Exception {
        example();
        answersBelowZero();
        whereCounterThrows();
        due.end();
    }

    private static void example() throws Exception {
        due.in("README.md");
        String readme = Files.readString(Path.of("README.md"));
        due.is("the example", printedBy(block(readme, "java")), block(readme, "text"));
    }

    private static String block(String readme, String language) {
        String fence = "```" + language + "\n";
        int from = readme.indexOf(fence) + fence.length();
        int to = readme.indexOf("```", from);
        if (!readme.contains(fence) || to < 0) {
            throw new IllegalStateException("README.md has no block of " + language);
        }
        return readme.substring(from, to);
    }

    private static String printedBy(String lines) throws Exception {
        Path made = Files.createTempDirectory("readme");
        Path source = made.resolve("Example.java");
        try {
            Files.writeString(source, "public class Example { public static void main(String[] args) {\n" + lines + "}}\n");
            int failed = ToolProvider.getSystemJavaCompiler().run(null, null, null, "-cp",
                System.getProperty("java.class.path"), "-d", made.toString(), source.toString());
            return failed == 0 ? run(made) : "it does not compile";
        } finally {
            remove(List.of(source, made.resolve("Example.class"), made));
        }
    }

    private static String run(Path classes) throws Exception {
        PrintStream before = System.out;
        ByteArrayOutputStream printed = new ByteArrayOutputStream();
        try (URLClassLoader loader = new URLClassLoader(new URL[] {classes.toUri().toURL()})) {
            System.setOut(new PrintStream(printed, true));
            loader.loadClass("Example").getMethod("main", String[].class).invoke(null, (Object) new String[0]);
        } finally {
            System.setOut(before);
        }
        return printed.toString().replace(System.lineSeparator(), "\n");
    }

    private static void remove(List<Path> made) throws IOException {
        for (Path path : made) {
            Files.deleteIfExists(path);
        }
    }

    /** The same answer, once the DEVIATION and once a refusal; deviation() before and after tells them apart. */
    private static void answersBelowZero() {
        Rows.check(due, "promises 10 and 13: -1 as DEVIATION, and as refusal", List.of("counter(10, 1) = 1",
            "table(1, 5) = 1", "start(1, 1) = 1", "deviation(1) = 0", "sync(1, -1) = -1", "deviation(1) = -1",
            "deviation(2) = 0", "sync(2, -1) ! -1", "deviation(2) = 0", "deviation(1) = -1"));
        Rows.check(due, "promises 10 and 13: -2 as DEVIATION, and as refusal", List.of("counter(10, 1) = 1",
            "table(1, 5) = 1", "start(1, 1) = 1", "sync(1, 7) = 7", "sync(1, -9) = -2", "deviation(1) = -2",
            "sync(1, 1003) ! -2", "deviation(1) = -2", "sync(1, -999) ! -2", "deviation(1) = -2"));
        Rows.check(due, "promises 10 and 13: -3 as DEVIATION, and as refusal", List.of("counter(10, 1) = 1",
            "table(1, 1) = 1", "table(1, 5) = 2", "start(2, 3) = 1", "sync(2, -3) = -3", "deviation(2) = -3",
            "sync(1, -3) ! -3", "deviation(1) = 0", "deviation(2) = -3"));
        Rows.check(due, "promise 10: from -1000 to 1000", List.of("counter(10, 1) = 1", "table(1, 5) = 1",
            "start(1, 1) = 1", "sync(1, -1000) = -1000", "deviation(1) = -1000", "sync(1, 2000) = 1000",
            "deviation(1) = 1000"));
    }

    private static void whereCounterThrows() {
        Rows.check(due, "promise 2: ArithmeticException when the BASE is 0, and there is room", Rows.of(
            List.of("counter(0, 1) = throws", "counter(0, 0) ! -2", "counter(0, 1001) ! -2"),
            Rows.each(1, 20, "counter(1, 1) = #"), List.of("counter(0, 1) ! -4", "counter(0, 0) ! -2")));
    }
}
