import java.io.IOException;
import java.nio.charset.StandardCharsets;
import java.nio.file.Files;
import java.nio.file.Path;
import java.util.ArrayList;
import java.util.List;
import java.util.Map;
import java.util.Set;
import java.util.TreeMap;
import java.util.TreeSet;

/**
 * The sentences of ../shared/DOC.md. A test of a sentence begins with says(); in the end complete() looks whether
 * each of the document's lines on a parameter, an answer or an exception had one.
 */
final class Doc extends Check {
    private static final Map<Integer, StringBuilder> parts = new TreeMap<>();
    private static final Map<Integer, List<String>> lines = new TreeMap<>();
    private static final Map<Integer, Set<String>> said = new TreeMap<>();
    private static int toldBefore = -1;

    private Doc() {
    }

    static void read() throws IOException {
        int part = 0;
        for (String line : Files.readAllLines(Path.of("..", "shared", "DOC.md"), StandardCharsets.UTF_8)) {
            if (line.startsWith("## Promise ")) {
                part = Integer.parseInt(line.substring(11, line.indexOf(':')));
            } else if (line.startsWith("## ") && part > 0) {
                break;
            }
            parts.computeIfAbsent(part, p -> new StringBuilder()).append(line).append('\n');
            if (part > 0 && (line.startsWith("- `") || line.startsWith("Returns ") || line.startsWith("Throws "))) {
                lines.computeIfAbsent(part, p -> new ArrayList<>()).add(line);
            }
        }
    }

    /** The tests that follow are of these words, which stand at the promise; 0 is all ahead of promise 1. */
    static void says(int promise, String words) {
        somethingWasTold();
        Check.promise = promise;
        Check.sentence = words;
        String part = parts.getOrDefault(promise, new StringBuilder()).toString().replaceAll("\\s+", " ");
        is("the document", part.contains(words), true);
        said.computeIfAbsent(promise, p -> new TreeSet<>()).add(words);
        toldBefore = told();
    }

    private static void somethingWasTold() {
        if (toldBefore == told()) {
            is("a sentence without a test", sentence, "");
        }
    }

    static void complete() {
        somethingWasTold();
        is("promises", lines.size(), 53);
        for (Map.Entry<Integer, List<String>> entry : lines.entrySet()) {
            Check.promise = entry.getKey();
            Check.sentence = "";
            for (String line : entry.getValue()) {
                Set<String> words = said.getOrDefault(entry.getKey(), new TreeSet<>());
                is("a test of the line " + line, words.stream().anyMatch(line::contains), true);
            }
        }
    }
}
