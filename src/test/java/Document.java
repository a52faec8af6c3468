import java.io.IOException;
import java.io.UncheckedIOException;
import java.nio.file.Files;
import java.nio.file.Path;
import java.util.ArrayList;
import java.util.LinkedHashMap;
import java.util.List;
import java.util.Map;

/** The document's words by its headings, and which of them a test has quoted. */
final class Document {
    private final Map<String, String> words = new LinkedHashMap<>();
    private final Map<String, boolean[]> quoted = new LinkedHashMap<>();

    Document(Path file) {
        String text;
        try {
            text = Files.readString(file);
        } catch (IOException e) {
            throw new UncheckedIOException(e);
        }
        for (String part : text.split("(?m)^## ")) {
            int end = part.indexOf('\n');
            String heading = part.substring(0, Math.max(0, end)).split(":")[0];
            // Marks of the page's own, which say nothing.
            String plain = part.substring(end + 1).replaceAll("```\\w*", " ").replaceAll("==== \\d\\.", " ");
            words.put(heading, plain.replaceAll("\\s+", " ").trim());
            quoted.put(heading, new boolean[words.get(heading).length()]);
        }
    }

    /** How often these words stand under that heading; they count as quoted then. */
    int quote(String heading, String quote) {
        String all = words.getOrDefault(heading, "");
        int times = 0;
        for (int at = all.indexOf(quote); at >= 0; at = all.indexOf(quote, at + 1)) {
            times++;
            for (int i = at; i < at + quote.length(); i++) {
                quoted.get(heading)[i] = true;
            }
        }
        return times;
    }

    /** What no test has quoted of the terms and the promises. */
    List<String> unquoted() {
        List<String> rest = new ArrayList<>();
        for (String heading : words.keySet()) {
            if (heading.equals("Terms") || heading.startsWith("Promise ")) {
                StringBuilder left = new StringBuilder();
                for (int i = 0; i < words.get(heading).length(); i++) {
                    left.append(quoted.get(heading)[i] ? '\n' : words.get(heading).charAt(i));
                }
                for (String run : left.toString().split("\n+")) {
                    if (run.chars().anyMatch(Character::isLetterOrDigit)) {
                        rest.add(heading + ": " + run.trim());
                    }
                }
            }
        }
        return rest;
    }

    long promises() {
        return words.keySet().stream().filter(h -> h.startsWith("Promise ")).count();
    }
}
