import java.io.IOException;
import java.lang.reflect.Constructor;
import java.lang.reflect.Field;
import java.lang.reflect.Method;
import java.lang.reflect.Modifier;
import java.nio.charset.StandardCharsets;
import java.nio.file.Files;
import java.nio.file.Paths;
import java.util.Arrays;
import java.util.HashSet;
import java.util.Set;
import java.util.TreeSet;
import java.util.regex.Matcher;
import java.util.regex.Pattern;

/** What of LANGUAGE.md can be seen from the source and the classes. */
public final class LanguageTests {
    private static final String[] RULED_OUT = {"->", "::", "\\bfinally\\b", "\\bsynchronized\\b", "\\bassert\\b",
        "\\bthrow\\b", "\\bthrows\\b", "\\bcatch\\b", "\\btry\\b", "\\bstatic\\s*\\{", "@", "\\bprotected\\b",
        "\\bpackage\\b", "\\bfloat\\b", "\\bdouble\\b", "\\bThread\\b", "\\bSystem\\.(?!arraycopy\\b)", "Exact\\b",
        "\\bMath\\.(?!max\\b|min\\b|abs\\b)", "\\bInteger\\.(?!bitCount\\b)", "\\bArrays\\.(?!fill\\b)", "\\bObject\\b",
        "\\bvar\\b", "\\byield\\b", "\\binstanceof\\b", "\\.equals\\(", "\\bhashCode\\b", "\\btoString\\b"};

    private LanguageTests() {
    }

    public static void main(String[] args) throws IOException {
        String source = new String(Files.readAllBytes(Paths.get("src/main/java/HalfAccuser.java")),
                StandardCharsets.UTF_8);
        ruledOut(source);
        methodLengths(source);
        recursion(source);
        guards(source);
        face();
        insides();
        Check.end("LanguageTests");
    }

    private static void ruledOut(String source) {
        String code = source.replaceAll("(?s)/\\*.*?\\*/", "").replaceAll("//[^\n]*", "")
                .replaceAll("\"[^\"\n]*\"", "\"\"").replaceAll("'(\\\\.|[^'])'", "' '");
        for (String out : RULED_OUT) {
            Matcher m = Pattern.compile(out).matcher(code);
            Check.that("ruled out: " + out, !m.find());
        }
        Matcher imports = Pattern.compile("import ([^;]*);").matcher(code);
        while (imports.find()) {
            Check.that(imports.group(1), imports.group(1).matches("java\\.util\\.(Arrays|ArrayList|List)"));
        }
        Check.that("texts joined by +", !Pattern.compile("\"\\s*\\+|\\+\\s*\"").matcher(code).find());
        for (int i = 0; i < source.length(); i++) {
            if (source.charAt(i) > 126) {
                Check.that("a sign above 126 at " + i, false);
            }
        }
    }

    private static void methodLengths(String source) {
        String[] lines = source.split("\n");
        int start = -1;
        String indent = "";
        for (int i = 0; i < lines.length; i++) {
            Matcher m = Pattern.compile("^( {4}| {8})(?=\\S)[\\w\\[\\] ]*\\w+\\([^;]*\\) \\{$").matcher(lines[i]);
            if (start < 0 && m.find()) {
                start = i;
                indent = m.group(1);
            } else if (start >= 0 && lines[i].equals(indent + "}")) {
                Check.that("a method of " + (i - start + 1) + " lines: " + lines[start], i - start + 1 <= 60);
                start = -1;
            }
        }
    }

    // Rule 8: a method that calls itself is private and static, and its depth is looked at.
    private static void recursion(String source) {
        Matcher m = Pattern.compile("(?m)^( {4}| {8})(\\S[\\w\\[\\] ]*?)(\\w+)\\([^;{]*\\) \\{$").matcher(source);
        int found = 0;
        while (m.find()) {
            String body = source.substring(m.end(), source.indexOf("\n" + m.group(1) + "}", m.end() - 1));
            if (Pattern.compile("(?<![.\\w])" + m.group(3) + "\\(").matcher(body).find()) {
                found++;
                Check.that(m.group(3) + " calls itself", m.group(2).startsWith("private static "));
                Check.that(m.group(3) + " has no guard", body.contains(">= MOST_TURNS"));
            }
        }
        Check.that(found + " methods that call themselves", found == 1);
    }

    // Rule 7: rows are reached, and divided is, only where the guard stands close by; a new place is looked at here first.
    private static void guards(String source) {
        String code = source.replaceAll("(?s)/\\*.*?\\*/", "").replaceAll("//[^\n]*", "").replaceAll("'(\\\\.|[^'])'", "0");
        Set<String> places = new TreeSet<>();
        Matcher m = Pattern.compile("\\b(?<!new )(\\w+\\[\\w[^\\]]*\\])").matcher(code);
        while (m.find()) {
            places.add(m.group(1));
        }
        Check.that("rows are reached at " + places, places.equals(new TreeSet<>(Arrays.asList("row[i]", "bytes[i]",
                "bytes[length]", "marks[i]", "marks[marked]", "marks[latest]"))));
        Set<String> divisors = new TreeSet<>();
        m = Pattern.compile("[/%]=? *([\\w.(]+)").matcher(code);
        while (m.find()) {
            if (!m.group(1).matches("[1-9]\\d*")) {
                divisors.add(m.group(1));
            }
        }
        Check.that("divided is by " + divisors, divisors.equals(new TreeSet<>(Arrays.asList("common", "k", "less", "n",
                "penalty"))));
        Check.that("a cast of an object", !Pattern.compile("\\((?!int\\)|long\\)|byte\\)|short\\))[A-Z]\\w*\\) *\\w").matcher(code).find());
    }

    private static void face() {
        Set<String> methods = new TreeSet<>();
        Set<String> shut = new HashSet<>();
        for (Method m : HalfAccuser.class.getDeclaredMethods()) {
            if (Modifier.isPublic(m.getModifiers())) {
                methods.add(m.getName());
                Check.that("two of a name: " + m.getName(), m.getParameterCount() == arguments(m.getName()));
            } else {
                Check.that(m + " is not private", Modifier.isPrivate(m.getModifiers()));
                shut.add(m.getName());
            }
        }
        Check.that("the face is " + methods, methods.equals(new TreeSet<>(Arrays.asList(Calls.NAMES))));
        for (Class<?> c : HalfAccuser.class.getDeclaredClasses()) {
            for (Method m : c.getDeclaredMethods()) {
                shut.add(m.getName());
            }
        }
        shut.retainAll(methods);
        Check.that("named as of the face: " + shut, shut.isEmpty());
        Check.that("the class is final", Modifier.isFinal(HalfAccuser.class.getModifiers()));
        Check.that("one constructor", HalfAccuser.class.getDeclaredConstructors().length == 1);
        for (Field f : HalfAccuser.class.getDeclaredFields()) {
            boolean none = f.getName().equals("NONE");
            Check.that(f + " is seen", none ? Modifier.isPublic(f.getModifiers()) : Modifier.isPrivate(f.getModifiers()));
        }
    }

    private static int arguments(String name) {
        return Calls.ARGUMENTS[Arrays.asList(Calls.NAMES).indexOf(name)];
    }

    private static void insides() {
        Class<?>[] inside = HalfAccuser.class.getDeclaredClasses();
        Check.that(inside.length + " classes inside", inside.length <= 12);
        oneClass(HalfAccuser.class);
        for (Class<?> c : inside) {
            Check.that(c + " is static", Modifier.isStatic(c.getModifiers()));
            Check.that(c + " is not seen", !Modifier.isPublic(c.getModifiers()));
            oneClass(c);
        }
    }

    private static void oneClass(Class<?> c) {
        int fields = 0;
        for (Field f : c.getDeclaredFields()) {
            if (Modifier.isStatic(f.getModifiers())) {
                Check.that(f + " is final", Modifier.isFinal(f.getModifiers()));
            } else {
                fields++;
            }
        }
        Check.that(c + " has " + fields + " fields", fields <= 20);
        for (Method m : c.getDeclaredMethods()) {
            Check.that(m + " takes too many", m.getParameterCount() <= 7);
        }
        for (Constructor<?> m : c.getDeclaredConstructors()) {
            Check.that(m + " takes too many", m.getParameterCount() <= 7);
        }
    }
}
