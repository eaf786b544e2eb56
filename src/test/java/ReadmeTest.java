import java.io.ByteArrayOutputStream;
import java.io.IOException;
import java.io.PrintStream;
import java.nio.charset.StandardCharsets;
import java.nio.file.Files;
import java.nio.file.Path;
import java.util.stream.Stream;

/** What README.md shows is the Example that runs, with what it prints; and it names every test there is. */
public final class ReadmeTest {
    public static void main(String[] args) throws IOException {
        Path source = Path.of(System.getProperty("seafire.source", "src/main/java/SeaFire.java")).toAbsolutePath();
        Path root = source.getParent().getParent().getParent().getParent();
        Path tests = root.resolve("src/test/java");
        String readme = Files.readString(root.resolve("README.md"));
        Bench.due("README has Example.java", readme.contains(block("java", Files.readString(tests.resolve("Example.java")))), true);
        Bench.due("README has what it prints", readme.contains(block("text", printed())), true);
        try (Stream<Path> files = Files.list(tests)) {
            files.map(f -> f.getFileName().toString()).filter(f -> f.endsWith("Test.java")).forEach(f ->
                    Bench.due("README names " + f, readme.contains("| `" + f.replace(".java", "") + "` |"), true));
        }
        everyCallIsNamed(readme);
        Bench.end();
    }

    private static String block(String sort, String text) {
        return "```" + sort + "\n" + text + "```\n";
    }

    private static String printed() {
        PrintStream before = System.out;
        ByteArrayOutputStream caught = new ByteArrayOutputStream();
        System.setOut(new PrintStream(caught, true, StandardCharsets.UTF_8));
        Example.main(new String[0]);
        System.setOut(before);
        return caught.toString(StandardCharsets.UTF_8).replace("\r\n", "\n");
    }

    private static void everyCallIsNamed(String readme) {
        for (java.lang.reflect.Method m : SeaFire.class.getDeclaredMethods()) {
            if (java.lang.reflect.Modifier.isPublic(m.getModifiers())) {
                Bench.due("README names " + m.getName(), readme.contains("`" + m.getName() + "`"), true);
            }
        }
    }
}
