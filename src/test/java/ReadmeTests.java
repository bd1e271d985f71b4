import java.io.ByteArrayOutputStream;
import java.io.IOException;
import java.io.PrintStream;
import java.nio.charset.StandardCharsets;
import java.nio.file.Files;
import java.nio.file.Paths;

/** README.md: its example is the one that is compiled here, and prints what is told there; it names every call and test. */
public final class ReadmeTests {
    private ReadmeTests() {
    }

    public static void main(String[] args) throws IOException {
        String readme = text("README.md");
        Check.that("another example", readme.contains("```java\n" + text("src/test/java/Example.java") + "```"));
        String printed = printed();
        Check.that("it prints " + printed, readme.contains("```text\n" + printed + "```"));
        for (String call : Calls.NAMES) {
            Check.that("no word of " + call, readme.contains("`" + call + "("));
        }
        String[] files = Paths.get("src/test/java").toFile().list();
        for (String file : files == null ? new String[0] : files) {
            if (file.endsWith("Tests.java")) {
                Check.that("no word of " + file, readme.contains("`" + file.replace(".java", "") + "`"));
            }
        }
        Check.end("ReadmeTests");
    }

    private static String text(String path) throws IOException {
        return new String(Files.readAllBytes(Paths.get(path)), StandardCharsets.UTF_8);
    }

    private static String printed() {
        PrintStream before = System.out;
        ByteArrayOutputStream bytes = new ByteArrayOutputStream();
        System.setOut(new PrintStream(bytes, true));
        Example.main(new String[0]);
        System.setOut(before);
        return new String(bytes.toByteArray(), StandardCharsets.UTF_8).replace("\r\n", "\n");
    }
}
