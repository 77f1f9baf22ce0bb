import java.io.IOException;
import java.lang.reflect.Method;
import java.lang.reflect.Modifier;
import java.nio.charset.StandardCharsets;
import java.nio.file.Files;
import java.nio.file.Path;
import java.util.ArrayList;
import java.util.List;
import java.util.regex.Matcher;
import java.util.regex.Pattern;

/**
 * Writes the Java that README.md shows as a test, ReadmeTest: blocks that begin with a static method are its methods,
 * the others are its main method, in which every call is compared with the answer that stands behind it.
 */
public final class ReadmeSource {
    private static final Pattern CALL = Pattern.compile("(.+); *// (.+)");
    // An answer ends at a colon, unless that is in the text that it is.
    private static final Pattern ANSWER = Pattern.compile("(\"[^\"]*\"|[^:]+)(: .+)?");

    private static final List<String> methods = new ArrayList<>();
    private static final List<String> main = new ArrayList<>();
    private static int wrong = 0;

    private ReadmeSource() {
    }

    private static void fail(String what) {
        System.err.println("README.md: " + what);
        wrong++;
    }

    private static String quoted(String s) {
        return '"' + s.replace("\\", "\\\\").replace("\"", "\\\"") + '"';
    }

    private static void statement(int number, String line) {
        Matcher call = CALL.matcher(line);
        if (!call.matches()) {
            if (!line.matches("NotaryBook \\w+ = new NotaryBook\\(\\);")) {
                fail("line " + number + " tells no answer");
            }
            main.add(line);
            return;
        }
        Matcher answer = ANSWER.matcher(call.group(2));
        if (!answer.matches()) {
            fail("line " + number + " tells an answer of another form");
            return;
        }
        String told = quoted(answer.group(1).replace("\"", ""));
        main.add("due(" + number + ", " + quoted(call.group(1)) + ", " + told + ", () -> " + call.group(1) + ");");
    }

    private static void block(int number, List<String> lines) {
        if (!lines.isEmpty() && lines.get(0).startsWith("static ")) {
            methods.addAll(lines);
            return;
        }
        for (int k = 0; k < lines.size(); k++) {
            statement(number + k, lines.get(k));
        }
    }

    private static void blocks(List<String> page) {
        List<String> block = null;
        for (int k = 0; k < page.size(); k++) {
            String line = page.get(k);
            if (block == null && line.equals("```java")) {
                block = new ArrayList<>();
            } else if (block != null && line.equals("```")) {
                block(k + 1 - block.size(), block);
                block = null;
            } else if (block != null) {
                block.add(line);
            }
        }
        if (block != null) {
            fail("a block does not end");
        }
    }

    private static void everyMethodIsShown() {
        String shown = String.join("\n", main);
        for (Method m : NotaryBook.class.getDeclaredMethods()) {
            if (Modifier.isPublic(m.getModifiers()) && !shown.contains("() -> book." + m.getName() + "(")
                    && !shown.contains(", book." + m.getName() + "(")) {
                fail("it does not show " + m.getName());
            }
        }
    }

    private static String source() {
        return String.join("\n",
                "public final class ReadmeTest {",
                "private static int right = 0;",
                "private static int wrong = 0;",
                "private interface Call { Object answer(); }",
                "private static void due(int line, String call, String want, Call it) {",
                "String got;",
                "try {",
                "got = String.valueOf(it.answer());",
                "} catch (RuntimeException e) {",
                "got = \"throws \" + e.getClass().getSimpleName();",
                "}",
                "if (got.equals(want)) { right++; return; }",
                "wrong++;",
                "System.out.println(\"README.md, line \" + line + \": \" + call + \" answered \" + got + \", it tells \" + want);",
                "}",
                String.join("\n", methods),
                "public static void main(String[] args) {",
                String.join("\n", main),
                "System.out.println(\"ReadmeTest: \" + right + \" as told, \" + wrong + \" wrong\");",
                "if (wrong != 0) System.exit(1);",
                "}",
                "}");
    }

    /** Arguments: the page, and the folder in which ReadmeTest.java is written. */
    public static void main(String[] args) throws IOException {
        blocks(Files.readAllLines(Path.of(args[0]), StandardCharsets.UTF_8));
        everyMethodIsShown();
        if (wrong != 0) {
            System.exit(1);
        }
        Files.writeString(Path.of(args[1], "ReadmeTest.java"), source(), StandardCharsets.UTF_8);
    }
}
