import java.io.IOException;
import java.lang.reflect.Constructor;
import java.lang.reflect.Field;
import java.lang.reflect.Method;
import java.lang.reflect.Modifier;
import java.nio.file.Files;
import java.nio.file.Path;
import java.util.List;
import java.util.TreeSet;
import java.util.regex.Matcher;
import java.util.regex.Pattern;

/** What of LANGUAGE.md can be seen from the class and its source; run from the project's folder. */
public final class LanguageTests {
    private static final List<String> FACE = List.of(
            "int alike(int, int, int)", "int block(int, int)", "int close()", "int drift(int, int)",
            "int drop(int)", "int exclude(int)", "int fault()", "int feed(int)",
            "int film(int, int, int)", "int goBack(int)", "int include(int)",
            "int isFilm(int, int, int, int)", "int keep(int)", "int leave()", "int line(int, int)",
            "int near(int, int)", "int open(int)", "int put(int, int)", "int share(int, int)",
            "int sheet(int, int)", "int take(int)", "int text(int, int, int)", "int told(int)",
            "int version(int, int)", "int weave()", "int without(int, int)", "long get(int, int)",
            "long set(int, int, long)");
    private static final List<String> CONSTANTS =
            List.of("FULL", "NONE", "NOT", "NULL", "OUTSIDE", "PLACE", "UNKNOWN");
    private static final List<String> FORBIDDEN = List.of(
            "\\bthrow\\b", "\\bthrows\\b", "\\btry\\b", "\\bcatch\\b", "\\bsynchronized\\b",
            "\\bassert\\b", "\\bimport\\b", "\\bpackage\\b", "->", "::", "\\bstatic\\s*\\{",
            "\\bprotected\\b", "\\bvolatile\\b", "\\bnative\\b", "Exact\\b", "\\bObject\\b",
            "\\bString\\b", "\\bRandom\\b", "\\bhashCode\\b", "\\bwhile\\s*\\(\\s*true");
    private static final int LONGEST_METHOD = 60;

    private static final Check CHECK = new Check();

    private LanguageTests() {
    }

    public static void main(String[] args) throws IOException {
        face();
        privateNames();
        String source = Files.readString(Path.of("src/main/java/WovenHistory.java"));
        String code = source.replaceAll("(?s)/\\*.*?\\*/", "").replaceAll("//[^\n]*", "");
        for (String word : FORBIDDEN) {
            CHECK.holds("no " + word, !Pattern.compile(word).matcher(code).find());
        }
        CHECK.holds("signs 0 to 127 alone", source.chars().allMatch(c -> c < 128));
        methods(source);
        CHECK.end("LanguageTests");
    }

    private static void face() {
        CHECK.holds("public and final", WovenHistory.class.getModifiers() == (Modifier.PUBLIC | Modifier.FINAL));
        TreeSet<String> methods = new TreeSet<>();
        for (Method m : WovenHistory.class.getDeclaredMethods()) {
            if (!Modifier.isPrivate(m.getModifiers())) {
                String shown = m.toString().replace("WovenHistory.", "").replace(",", ", ");
                methods.add(shown.replaceFirst("^public ", ""));
            }
        }
        CHECK.holds("the methods of the face: " + methods, methods.equals(new TreeSet<>(FACE)));
        TreeSet<String> constants = new TreeSet<>();
        for (Field f : WovenHistory.class.getDeclaredFields()) {
            if (!Modifier.isPrivate(f.getModifiers())) {
                constants.add(f.getName());
                CHECK.holds(f + " is constant", f.toString().startsWith("public static final int "));
            }
        }
        CHECK.holds("the constants of the face: " + constants, constants.equals(new TreeSet<>(CONSTANTS)));
        Constructor<?>[] made = WovenHistory.class.getDeclaredConstructors();
        CHECK.holds("one public constructor", made.length == 1 && made[0].getParameterCount() == 0
                && Modifier.isPublic(made[0].getModifiers()));
    }

    private static void privateNames() {
        TreeSet<String> open = new TreeSet<>();
        for (Method m : WovenHistory.class.getMethods()) {
            open.add(m.getName());
        }
        CHECK.holds("at most twelve classes", WovenHistory.class.getDeclaredClasses().length < 12);
        for (Method m : WovenHistory.class.getDeclaredMethods()) {
            CHECK.holds(m + " has a name of its own", Modifier.isPublic(m.getModifiers()) || !open.contains(m.getName()));
        }
        for (Class<?> inner : WovenHistory.class.getDeclaredClasses()) {
            CHECK.holds(inner + " is static", Modifier.isStatic(inner.getModifiers()));
            CHECK.holds(inner + " has few fields", inner.getDeclaredFields().length <= 20);
            for (Method m : inner.getDeclaredMethods()) {
                CHECK.holds(m + " has a name of its own", !open.contains(m.getName()));
                CHECK.holds(m + " has few parameters", m.getParameterCount() <= 7);
            }
        }
    }

    private static void methods(String source) {
        String[] lines = source.split("\n");
        Pattern head = Pattern.compile("^( {4}| {8})(?! )[A-Za-z][^;=]*\\) \\{$");
        int found = 0;
        for (int k = 0; k < lines.length; k++) {
            Matcher m = head.matcher(lines[k]);
            if (m.matches() && !lines[k].matches("\\s*(if|for|while|switch|else)\\b.*")) {
                found++;
                int end = k;
                while (end < lines.length && !lines[end].equals(m.group(1) + "}")) {
                    end++;
                }
                CHECK.holds("line " + (k + 1) + " begins a short method", end - k < LONGEST_METHOD);
            }
        }
        CHECK.holds("methods were found", found > 28);
    }
}
