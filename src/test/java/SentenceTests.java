import java.io.IOException;
import java.lang.reflect.Method;
import java.lang.reflect.Modifier;
import java.nio.charset.StandardCharsets;
import java.nio.file.Files;
import java.nio.file.Path;
import java.nio.file.Paths;
import java.util.regex.Matcher;
import java.util.regex.Pattern;

/** Each sentence of the document has tests that are there and are run; the face is that of the document. */
public final class SentenceTests {
    private static final Path DOCUMENT = Paths.get("../shared/DOC.md");
    private static final Path SENTENCES = Paths.get("src/test/sentences.txt");

    private SentenceTests() {
    }

    public static void main(String[] args) throws IOException {
        String document = text(DOCUMENT);
        sentences(plain(document));
        face(document.substring(document.indexOf("```java"), document.indexOf("## Terms")));
        headings(document, text(Paths.get("src/main/java/HalfAccuser.java")));
        Check.end("SentenceTests");
    }

    private static String text(Path path) throws IOException {
        return new String(Files.readAllBytes(path), StandardCharsets.UTF_8);
    }

    // From the Terms to the last promise, without headings, signatures and fences.
    private static String plain(String document) {
        String part = document.substring(document.indexOf("## Terms"), document.indexOf("## Not promised"));
        return part.replaceAll("(?m)^Ahead of the calls .*$", "").replaceAll("(?m)^#+ .*$", "").replaceAll("====\\s*\\d+\\.", "")
                .replaceAll("(?m)^```.*$", "").replaceAll("(?m)^`[^`]*\\([^`]*\\)`: ", "").replaceAll("\\s+", " ").trim();
    }

    private static void sentences(String document) throws IOException {
        int place = 0;
        for (String line : text(SENTENCES).split("\n")) {
            if (line.isEmpty() || line.startsWith("#")) {
                continue;
            }
            String[] two = line.split(" \\| ");
            boolean follows = document.startsWith(two[0], place);
            Check.that("the document does not go on with: " + two[0], follows);
            if (!follows || two.length != 2) {
                Check.that("no test for: " + two[0], two.length == 2);
                return;
            }
            place += two[0].length();
            while (place < document.length() && document.charAt(place) == ' ') {
                place++;
            }
            for (String test : two[1].trim().split(" ")) {
                isRun(test);
            }
        }
        Check.that("no test for: " + document.substring(place), place == document.length());
    }

    private static void isRun(String test) throws IOException {
        String[] two = test.split("\\.");
        String source = text(Paths.get("src/test/java/" + two[0] + ".java"));
        Check.that("no test " + test, source.contains("private static void " + two[1] + "() {"));
        Check.that("nobody runs " + test, source.contains("        " + two[1] + "();\n"));
    }

    private static void face(String face) {
        Matcher m = Pattern.compile("public (\\w+) (\\w+)\\(([^)]*)\\);").matcher(face);
        int found = 0;
        while (m.find()) {
            found++;
            StringBuilder due = new StringBuilder(m.group(1) + " " + m.group(2));
            for (String parameter : m.group(3).split(", ")) {
                due.append(' ').append(parameter.split(" ")[0]);
            }
            Check.that("not of the face: " + m.group(), due.toString().trim().equals(shown(m.group(2))));
        }
        Check.that(found + " calls", found == Calls.NAMES.length);
        Check.same("NONE", HalfAccuser.NONE, -1);
    }

    private static String shown(String name) {
        for (Method m : HalfAccuser.class.getDeclaredMethods()) {
            if (m.getName().equals(name) && Modifier.isPublic(m.getModifiers())) {
                StringBuilder text = new StringBuilder(m.getReturnType() + " " + name);
                for (Class<?> c : m.getParameterTypes()) {
                    text.append(' ').append(c);
                }
                return text.toString();
            }
        }
        return "none";
    }

    // "Ahead of the calls .. the interface says: ---- .."
    private static void headings(String document, String source) {
        Matcher m = Pattern.compile("Ahead of the calls (.*) the interface says: (---- .*)\\.\n").matcher(document);
        int found = 0;
        while (m.find()) {
            found++;
            int start = source.indexOf("// " + m.group(2) + "\n");
            Check.that("no heading " + m.group(2), start >= 0);
            int end = source.indexOf("// ----", start + 1);
            for (String call : m.group(1).split(", ")) {
                int place = source.indexOf(" " + call.replace("`", "") + "(", Math.max(0, start));
                Check.that(call + " is not under " + m.group(2), place > start && place < end);
            }
        }
        Check.that(found + " headings", found == 10);
    }
}
