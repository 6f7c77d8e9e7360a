import java.io.ByteArrayOutputStream;
import java.io.PrintStream;
import java.nio.charset.StandardCharsets;
import java.nio.file.Files;
import java.nio.file.Path;

/** README.md shows the example as it is, and what it prints; its table has each test. */
public final class ReadmeTest {
    private static final Check CHECK = new Check();

    public static void main(String[] args) throws Exception {
        String readme = Files.readString(Path.of("README.md"));
        String example = Files.readString(Path.of("src/test/java/Example.java"));
        CHECK.yes("README.md shows the example as it is", example.endsWith("\n" + block(readme, "java")));
        CHECK.yes("README.md tells what it prints", printed().equals(block(readme, "text")));
        tests(readme);
        CHECK.end();
    }

    private static String block(String text, String kind) {
        String head = "```" + kind + "\n";
        int from = text.indexOf(head);
        int to = text.indexOf("```\n", from + head.length());
        return from < 0 || to < 0 ? "no such block" : text.substring(from + head.length(), to);
    }

    private static String printed() {
        PrintStream was = System.out;
        ByteArrayOutputStream bytes = new ByteArrayOutputStream();
        System.setOut(new PrintStream(bytes, true, StandardCharsets.UTF_8));
        Example.main(new String[0]);
        System.setOut(was);
        return bytes.toString(StandardCharsets.UTF_8).replace("\r\n", "\n");
    }

    private static void tests(String readme) {
        String[] names = Path.of("src/test/java").toFile().list();
        for (String name : names == null ? new String[0] : names) {
            if (name.endsWith("Test.java")) CHECK.yes("README.md tells of " + name, readme.contains("| " + name.replace(".java", " |")));
        }
    }
}
