import java.io.IOException;
import java.nio.file.Files;
import java.nio.file.Path;
import java.util.ArrayList;
import java.util.LinkedHashMap;
import java.util.List;
import java.util.Map;

/** The sections of the document, and which of their words have been quoted. */
final class Document {
    private final Map<String, String> sections = new LinkedHashMap<>();
    private final Map<String, boolean[]> quoted = new LinkedHashMap<>();

    Document(Path file) throws IOException {
        String heading = "";
        for (String line : Files.readAllLines(file)) {
            if (line.startsWith("## ")) {
                heading = line.substring(3).replaceAll(":.*", "");
            } else if (!line.startsWith("```")) {
                sections.merge(heading, line, (a, b) -> a + " " + b);
            }
        }
        sections.replaceAll((h, text) -> plain(text));
        sections.forEach((h, text) -> quoted.put(h, new boolean[text.length()]));
    }

    private static String plain(String text) {
        return text.replaceAll("\\s+", " ").trim();
    }

    /** Answers whether a section has these words. */
    boolean quote(String heading, String words) {
        String text = sections.getOrDefault(heading, "");
        String wanted = plain(words);
        boolean found = false;
        for (int at = text.indexOf(wanted); at >= 0 && !wanted.isEmpty(); at = text.indexOf(wanted, at + 1)) {
            found = true;
            for (int k = at; k < at + wanted.length(); k++) {
                quoted.get(heading)[k] = true;
            }
        }
        return found;
    }

    /** The words of the sections that some test quotes, which no test quotes. */
    List<String> unquoted() {
        List<String> all = new ArrayList<>();
        for (String heading : sections.keySet()) {
            if (heading.equals("Terms") || heading.startsWith("Promise ")) {
                addUnquoted(heading, all);
            }
        }
        return all;
    }

    private void addUnquoted(String heading, List<String> all) {
        String text = sections.get(heading);
        boolean[] marks = quoted.get(heading);
        int k = 0;
        while (k < text.length()) {
            int first = k;
            while (k < text.length() && marks[k] == marks[first]) {
                k++;
            }
            String piece = text.substring(first, k);
            if (!marks[first] && piece.matches(".*[A-Za-z0-9].*")) {
                all.add(heading + ": " + piece.trim());
            }
        }
    }
}
