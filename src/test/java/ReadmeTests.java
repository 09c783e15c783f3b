import java.io.IOException;
import java.lang.reflect.Method;
import java.lang.reflect.Modifier;
import java.nio.file.Files;
import java.nio.file.Path;
import java.util.List;
import java.util.regex.Matcher;
import java.util.regex.Pattern;

/** README.md's example answers what it says, and README.md tells each call; run from the project's folder. */
public final class ReadmeTests {
    private static final Pattern EXAMPLE = Pattern.compile("(?s)```java\n(.*?)```");
    private static final Pattern TOLD = Pattern.compile("String told = \"(.*)\";.*");
    private static final Pattern CALL = Pattern.compile("x\\.(\\w+\\(.*?\\)); +// (-?\\w+): .*");

    private static final Check CHECK = new Check();

    private ReadmeTests() {
    }

    public static void main(String[] args) throws IOException {
        String readme = Files.readString(Path.of("README.md"));
        Matcher example = EXAMPLE.matcher(readme);
        CHECK.holds("there is an example", example.find());
        play(example.group(1).split("\n"));
        tellsEachCall(readme);
        CHECK.end("ReadmeTests");
    }

    private static void play(String[] rows) {
        Player player = new Player(new WovenHistory());
        int played = 0;
        for (String row : rows) {
            Matcher told = TOLD.matcher(row);
            Matcher call = CALL.matcher(row);
            if (told.matches()) {
                told.group(1).chars().forEach(letter -> player.call("feed", List.of((long) letter)));
            } else if (call.matches()) {
                played++;
                Row due = Row.of(call.group(1) + " = " + call.group(2));
                CHECK.due(due.shown(), player.call(due.name(), due.numbers()), due.want());
            } else {
                boolean isKnown = row.isBlank() || row.startsWith("WovenHistory x = ") || row.startsWith("for (");
                CHECK.holds("the example's row is played: " + row, isKnown);
            }
        }
        CHECK.holds("calls were found", played > 10);
    }

    private static void tellsEachCall(String readme) {
        for (Method m : WovenHistory.class.getDeclaredMethods()) {
            if (Modifier.isPublic(m.getModifiers())) {
                String parameters = "[^,()]+".concat(", [^,()]+".repeat(Math.max(0, m.getParameterCount() - 1)));
                String call = "`" + m.getName() + "\\(" + (m.getParameterCount() == 0 ? "" : parameters) + "\\)`";
                CHECK.holds("README.md tells " + call, Pattern.compile(call).matcher(readme).find());
            }
        }
        for (String name : List.of("NONE", "UNKNOWN", "OUTSIDE", "NOT", "FULL", "NULL", "PLACE")) {
            CHECK.holds("README.md tells " + name, readme.contains("`" + name + "`"));
        }
    }
}
