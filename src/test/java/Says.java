import java.io.IOException;
import java.io.UncheckedIOException;
import java.nio.file.Files;
import java.nio.file.Path;
import java.util.HashMap;
import java.util.Map;
import java.util.Set;
import java.util.TreeSet;

/**
 * The sentences of the document that the edge tests are due by. A test quotes its sentence; a quote
 * that does not stand where the test says is a fault of the test. Run at the project's root.
 */
final class Says {
    private static final Map<String, String> PARTS = read();
    private static final Set<String> NAMED = new TreeSet<>();

    private Says() {
    }

    static void terms(int n, String... quotes) {
        of("Terms " + n, quotes);
    }

    static void promise(int n, String... quotes) {
        of("Promise " + n, quotes);
    }

    /** How many of the promises 1 to 35 a test has named. */
    static int promisesNamed() {
        int named = 0;
        for (int n = 1; n <= 35; n++) {
            if (NAMED.contains("Promise " + n)) named++;
            else System.out.println("no edge of Promise " + n + " is tested");
        }
        return named;
    }

    private static void of(String part, String[] quotes) {
        String text = PARTS.getOrDefault(part, "");
        for (String quote : quotes) Check.due(part + " says: " + quote, text.contains(quote) ? 1 : 0, 1);
        NAMED.add(part);
        Check.by(part + ": " + String.join(" .. ", quotes));
    }

    private static Map<String, String> read() {
        String text;
        try {
            text = Files.readString(Path.of("../shared/DOC.md")).replaceAll("\\s+", " ");
        } catch (IOException e) {
            throw new UncheckedIOException(e);
        }
        Map<String, String> parts = new HashMap<>();
        for (int n = 1; n <= 3; n++) {
            parts.put("Terms " + n, between(text, "==== " + n + " ", n < 3 ? "==== " + (n + 1) + " " : "## Promise 1:"));
        }
        for (int n = 1; n <= 35; n++) {
            parts.put("Promise " + n, between(text, "## Promise " + n + ":", n < 35 ? "## Promise " + (n + 1) + ":" : "## Not promised"));
        }
        return parts;
    }

    private static String between(String text, String first, String last) {
        int from = text.indexOf(first);
        int to = text.indexOf(last);
        return from < 0 || to < from ? "" : text.substring(from, to);
    }
}
