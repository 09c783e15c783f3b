import java.io.IOException;
import java.nio.file.Files;
import java.nio.file.Path;
import java.util.ArrayList;
import java.util.List;

/**
 * Plays the runs of src/test/bounds: each sentence of the document with the runs that hold it.
 * Each run is played on the class and on the model. What is refused must change nothing: that is
 * asked behind every row with a refusal or a fault. And each word of the document is in a quote.
 */
public final class BoundaryTests {
    private static final Check CHECK = new Check();

    private BoundaryTests() {
    }

    public static void main(String[] args) throws IOException {
        Bounds bounds = Bounds.read(Path.of("src/test/bounds"));
        bounds.mistakes().forEach(m -> CHECK.holds(m, false));
        CHECK.holds("there are sentences", bounds.sentences().size() > 29);
        for (Bounds.Sentence s : bounds.sentences()) {
            CHECK.holds(name(s) + " has a test", s.runs().isEmpty() != s.reasons().isEmpty());
            for (List<Row> run : s.runs()) {
                CHECK.holds(name(s) + " has a run of some rows", !run.isEmpty());
                play(name(s) + ", of the class", run, new Player(new WovenHistory()));
                play(name(s) + ", of the model", run, new Player(new Model()));
                refusalsChangeNothing(name(s), run);
            }
        }
        quotes(bounds);
        CHECK.end("BoundaryTests");
    }

    private static String name(Bounds.Sentence s) {
        return "'" + s.heading() + ": " + s.words() + "'";
    }

    private static void play(String name, List<Row> run, Player player) {
        for (Row row : run) {
            String wrong = player.play(row);
            CHECK.holds(name + ": " + row.shown() + ": " + wrong, wrong == null);
        }
        CHECK.holds(name + ": no more calls than an object is made for", player.calls() <= Player.MOST_CALLS);
    }

    private static void quotes(Bounds bounds) throws IOException {
        Path file = Path.of("../shared/DOC.md");
        if (!Files.exists(file)) {
            System.out.println("no " + file + ": the quotes are not looked up");
            return;
        }
        Document document = new Document(file);
        for (Bounds.Sentence s : bounds.sentences()) {
            CHECK.holds(name(s) + " stands in the document", document.quote(s.heading(), s.words()));
        }
        List<String> left = document.unquoted();
        left.forEach(words -> CHECK.holds("'" + words + "' is in a quote", false));
    }

    // ---- what is refused changes nothing

    private static void refusalsChangeNothing(String name, List<Row> run) {
        for (int k = 0; k < run.size(); k++) {
            Row row = run.get(k);
            if (row.isRefused() || row.isFault()) {
                List<Row> before = run.subList(0, k);
                List<Row> with = run.subList(0, k + 1);
                for (List<Row> walk : walks(with, row.isFault())) {
                    CHECK.holds(name + ": " + row.shown() + " changes nothing that " + walk.get(0).shown() + " .. tell",
                            answers(with, walk).equals(answers(before, walk)));
                }
            }
        }
    }

    private static List<Long> answers(List<Row> run, List<Row> walk) {
        Player player = new Player(new WovenHistory());
        run.forEach(player::play);
        List<Long> all = player.answers(walk);
        CHECK.holds("no more calls than an object is made for", player.calls() <= Player.MOST_CALLS);
        return all;
    }

    /**
     * All that can be asked behind a run, in walks that are each short enough for one object.
     * Behind a fault the letters are gone and fault() is another: these are not asked then.
     */
    private static List<List<Row>> walks(List<Row> run, boolean behindFault) {
        Player player = new Player(new WovenHistory());
        run.forEach(player::play);
        int room = Math.max(1, Player.MOST_CALLS - player.calls());
        int versions = Math.toIntExact(player.call("told", List.of(0L)));
        int lines = Math.toIntExact(player.call("told", List.of(1L)));
        List<List<Row>> walks = new ArrayList<>();
        split(told(behindFault), room, walks);
        split(weave(versions, lines), room, walks);
        split(sheets(), room, walks);
        walks.add(List.of(Row.call("close"), Row.call("version", versions, 0), Row.call("version", versions, 1),
                Row.call("version", versions, 2), Row.call("version", versions, 3), Row.call("told", 0)));
        for (Row way : List.of(Row.call("leave"), Row.call("goBack", 0), Row.call("goBack", 1))) {
            List<Row> walk = new ArrayList<>(List.of(way, Row.call("told", 0), Row.call("told", 1)));
            walk.addAll(weave(versions, lines));
            walks.add(walk.subList(0, Math.min(walk.size(), room)));
        }
        if (!behindFault) {
            walks.add(List.of(Row.call("weave"), Row.call("fault"), Row.call("told", 0), Row.call("told", 1)));
        }
        return walks;
    }

    private static void split(List<Row> asked, int room, List<List<Row>> walks) {
        for (int k = 0; k < asked.size(); k += room) {
            walks.add(asked.subList(k, Math.min(asked.size(), k + room)));
        }
    }

    private static List<Row> told(boolean behindFault) {
        List<Row> all = new ArrayList<>();
        for (int what = 0; what <= 9; what++) {
            if (what != 8 || !behindFault) {
                all.add(Row.call("told", what));
            }
        }
        if (!behindFault) {
            all.add(Row.call("fault"));
        }
        return all;
    }

    private static List<Row> weave(int versions, int lines) {
        List<Row> all = new ArrayList<>();
        for (int v = 0; v < versions; v++) {
            for (int what = 0; what <= 6; what++) {
                all.add(Row.call("version", v, what));
            }
        }
        for (int i = 0; i < lines; i++) {
            for (int what = 0; what <= 3; what++) {
                all.add(Row.call("line", i, what));
            }
        }
        return all;
    }

    private static List<Row> sheets() {
        List<Row> all = new ArrayList<>();
        for (int s = 0; s < 4; s++) {
            for (int i = 0; i <= 40; i++) {
                all.add(Row.call("get", s, i));
            }
        }
        return all;
    }
}
