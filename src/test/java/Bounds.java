import java.io.IOException;
import java.nio.file.Files;
import java.nio.file.Path;
import java.util.ArrayList;
import java.util.LinkedHashMap;
import java.util.List;
import java.util.Map;
import java.util.stream.Stream;

/**
 * The files of src/test/bounds: sentences of the document, each with the runs that hold it.
 *
 * <pre>
 * ## Promise 2              the document's heading
 * let TWO = v99;v0;         from here on $TWO stands for that
 * > OUTSIDE, FULL (240).    a sentence; further such lines go on with it
 * new                       a new object; with "a text": that has been told to it
 * feed(-1) = OUTSIDE        a row (see Row)
 * - why                     instead of runs: the sentence names no bound
 * // a comment
 * </pre>
 */
final class Bounds {
    record Sentence(String heading, String words, List<List<Row>> runs, List<String> reasons) {
    }

    private final List<Sentence> sentences = new ArrayList<>();
    private final List<String> mistakes = new ArrayList<>();
    private final Map<String, String> names = new LinkedHashMap<>();
    private String heading = "";
    private String words = "";
    private Sentence current = null;

    static Bounds read(Path folder) throws IOException {
        Bounds all = new Bounds();
        try (Stream<Path> files = Files.list(folder)) {
            for (Path file : files.filter(f -> f.toString().endsWith(".txt")).sorted().toList()) {
                int number = 0;
                for (String line : Files.readAllLines(file)) {
                    number++;
                    all.take(line, file.getFileName() + ":" + number);
                }
                all.words = "";
                all.current = null;
            }
        }
        return all;
    }

    List<Sentence> sentences() {
        return sentences;
    }

    List<String> mistakes() {
        return mistakes;
    }

    private void take(String line, String where) {
        if (line.startsWith("## ")) {
            heading = line.substring(3).trim();
            current = null;
            words = "";
        } else if (line.startsWith("> ")) {
            words = current == null ? words + " " + line.substring(2) : line.substring(2);
            current = null;
        } else if (line.startsWith("let ")) {
            String[] parts = line.substring(4).split(" = ", 2);
            names.put("$" + parts[0], parts[1]);
        } else if (!line.isBlank() && !line.startsWith("//")) {
            takeTest(line, where);
        }
    }

    private void takeTest(String line, String where) {
        if (current == null) {
            current = new Sentence(heading, words.trim(), new ArrayList<>(), new ArrayList<>());
            sentences.add(current);
        }
        if (line.startsWith("- ")) {
            current.reasons().add(line.substring(2));
        } else if (line.equals("new") || line.startsWith("new ")) {
            current.runs().add(new ArrayList<>());
            if (!line.equals("new")) {
                takeRow("tell " + named(line.substring(4)) + " = v", where);
            }
        } else {
            takeRow(named(line), where);
        }
    }

    private String named(String line) {
        String all = line;
        for (Map.Entry<String, String> e : names.entrySet()) {
            all = all.replace(e.getKey(), e.getValue());
        }
        return all;
    }

    private void takeRow(String text, String where) {
        Row row = Row.of(text);
        if (row == null || current.runs().isEmpty()) {
            mistakes.add(where + ": no row of a run: " + text);
        } else {
            current.runs().get(current.runs().size() - 1).add(row);
        }
    }
}
