import java.util.ArrayList;
import java.util.List;
import java.util.Map;
import java.util.regex.Matcher;
import java.util.regex.Pattern;

/**
 * One row of a run: a call with the answer that is due, as it stands in a file of src/test/bounds.
 *
 * <pre>
 * put(0, 'A') = 3             a call
 * 120 x put(0, 65) = 0        the same call, so many times
 * letters "v99;" = 4          each letter is fed; the answer is the last one's
 * tell "v99;v1;" = -12 at 5   each letter is fed, then weave() and fault()
 * tell "v99;" = v             as many versions as the text has a letter v
 * whole(1) = "ABC"            the letters of a version's text (NONE: of the open one's)
 * </pre>
 */
record Row(String shown, Kind kind, int times, String name, List<Long> numbers, String told,
           long want, String wantText, long wantFault) {
    enum Kind { CALL, LETTERS, TELL, WHOLE }

    static final Map<String, Long> NAMES = Map.ofEntries(
            Map.entry("NONE", -1L), Map.entry("UNKNOWN", -1000000001L),
            Map.entry("OUTSIDE", -1000000002L), Map.entry("NOT", -1000000003L),
            Map.entry("FULL", -1000000004L), Map.entry("NULL", -1000000011L),
            Map.entry("PLACE", -1000000012L), Map.entry("MAX", (long) Integer.MAX_VALUE),
            Map.entry("MIN", (long) Integer.MIN_VALUE), Map.entry("LONGMAX", Long.MAX_VALUE),
            Map.entry("LONGMIN", Long.MIN_VALUE));
    private static final List<String> REFUSALS =
            List.of("UNKNOWN", "OUTSIDE", "NOT", "FULL", "NULL", "PLACE");

    private static final Pattern LETTERS = Pattern.compile("letters \"(.*)\" = (\\w+)");
    private static final Pattern TELL = Pattern.compile("tell \"(.*)\" = (-?\\d+|v)(?: at (\\d+))?");
    private static final Pattern WHOLE = Pattern.compile("whole\\((.*)\\) = \"(.*)\"");
    private static final Pattern CALL = Pattern.compile("(?:(\\d+) x )?(\\w+)\\((.*)\\) = (.+)");
    private static final Pattern MANY = Pattern.compile("\\{([^{}]+)\\*(\\d+)\\}");
    private static final Pattern CODE = Pattern.compile("\\{#(\\d+)\\}");

    /** Answers null for what is no row. */
    static Row of(String text) {
        Matcher m = LETTERS.matcher(text);
        if (m.matches()) {
            return new Row(text, Kind.LETTERS, 1, "feed", List.of(), spread(m.group(1)), value(m.group(2)), "", 0);
        }
        m = TELL.matcher(text);
        if (m.matches()) {
            String told = spread(m.group(1));
            long want = m.group(2).equals("v") ? told.chars().filter(c -> c == 'v').count() : value(m.group(2));
            long fault = m.group(3) == null ? -1 : value(m.group(3));
            return new Row(text, Kind.TELL, 1, "weave", List.of(), told, want, "", fault);
        }
        m = WHOLE.matcher(text);
        if (m.matches()) {
            return new Row(text, Kind.WHOLE, 1, "text", values(m.group(1)), "", 0, spread(m.group(2)), 0);
        }
        m = CALL.matcher(text);
        if (m.matches()) {
            int times = m.group(1) == null ? 1 : Integer.parseInt(m.group(1));
            return new Row(text, Kind.CALL, times, m.group(2), values(m.group(3)), "", value(m.group(4)), "", 0);
        }
        return null;
    }

    static Row call(String name, long... numbers) {
        List<Long> list = new ArrayList<>();
        for (long n : numbers) {
            list.add(n);
        }
        return new Row(name + list, Kind.CALL, 1, name, list, "", 0, "", 0);
    }

    boolean isRefused() {
        boolean mayHoldAnyNumber = name.equals("get") || name.equals("set");
        boolean named = REFUSALS.stream().anyMatch(r -> shown.endsWith("= " + r));
        return kind == Kind.CALL && named || kind == Kind.CALL && !mayHoldAnyNumber && want <= -1000000001L;
    }

    boolean isFault() {
        return kind == Kind.TELL && want < 0;
    }

    private static List<Long> values(String list) {
        List<Long> all = new ArrayList<>();
        for (String one : list.isBlank() ? new String[0] : list.split(",")) {
            all.add(value(one.trim()));
        }
        return all;
    }

    /** A sum of products of numbers, names and letters. */
    private static long value(String sum) {
        long total = 0;
        for (String product : sum.split(" \\+ ")) {
            long result = 1;
            for (String factor : product.split(" \\* ")) {
                result *= atom(factor.trim());
            }
            total += result;
        }
        return total;
    }

    private static long atom(String text) {
        if (text.matches("'.'")) {
            return text.charAt(1);
        }
        Long named = NAMES.get(text);
        return named != null ? named : Long.parseLong(text);
    }

    /** {A*120} is A 120 times, {#9} the letter 9. */
    private static String spread(String text) {
        String many = MANY.matcher(text).replaceAll(
                m -> Matcher.quoteReplacement(m.group(1).repeat(Integer.parseInt(m.group(2)))));
        return CODE.matcher(many).replaceAll(
                m -> Matcher.quoteReplacement(String.valueOf((char) Integer.parseInt(m.group(1)))));
    }
}
