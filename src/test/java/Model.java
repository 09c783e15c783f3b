import java.util.ArrayList;
import java.util.Arrays;
import java.util.List;
import java.util.Objects;
import java.util.TreeSet;

/**
 * The document once more, in the plainest Java with the whole library: sets of versions as sets,
 * texts as lists, the told text as tokens. It shares no code with the class that it is held against.
 */
final class Model {
    static final int NONE = -1, UNKNOWN = -1000000001, OUTSIDE = -1000000002, NOT = -1000000003;
    static final int FULL = -1000000004, NULL = -1000000011, PLACE = -1000000012;

    private static final class Version {
        Version parent;
        int number;
        TreeSet<Integer> includes = new TreeSet<>();
        TreeSet<Integer> excludes = new TreeSet<>();

        TreeSet<Integer> changes() {
            TreeSet<Integer> all = parent == null ? new TreeSet<>() : parent.changes();
            all.addAll(includes);
            all.removeAll(excludes);
            all.add(number);
            return all;
        }

        Version copy(List<Version> older) {
            Version c = new Version();
            c.parent = parent == null ? null : older.get(parent.number);
            c.number = number;
            c.includes.addAll(includes);
            c.excludes.addAll(excludes);
            return c;
        }
    }

    private static final class Line {
        char letter;
        int brought;
        TreeSet<Integer> took = new TreeSet<>();

        Line(char letter, int brought, TreeSet<Integer> took) {
            this.letter = letter;
            this.brought = brought;
            this.took.addAll(took);
        }

        boolean stands(TreeSet<Integer> changes) {
            return changes.contains(brought) && took.stream().noneMatch(changes::contains);
        }
    }

    private static final class World {
        List<Version> versions = new ArrayList<>();
        List<Line> lines = new ArrayList<>();

        World copy() {
            World c = new World();
            for (Version v : versions) {
                c.versions.add(v.copy(c.versions));
            }
            for (Line l : lines) {
                c.lines.add(new Line(l.letter, l.brought, l.took));
            }
            return c;
        }
    }

    private static final class Fault extends RuntimeException {
        private static final long serialVersionUID = 1L;
        final int number;
        final int place;

        Fault(int number, int place) {
            this.number = number;
            this.place = place;
        }
    }

    private record Token(char kind, int place, String figures) {
        int value() {
            return Integer.parseInt(figures);
        }
    }

    private World world = new World();
    private World before;
    private Version opened;
    private String fed = "";
    private int faultAt = NONE;
    private final long[][] sheets = new long[4][];
    private final World[] images = new World[2];

    private static int number(TreeSet<Integer> set) {
        return set.stream().mapToInt(k -> 1 << k).sum();
    }

    private boolean has(int v) {
        return v >= 0 && v < world.versions.size();
    }

    private List<Line> textOf(TreeSet<Integer> changes) {
        return new ArrayList<>(world.lines.stream().filter(l -> l.stands(changes)).toList());
    }

    private List<Line> textOf(int v) {
        return textOf(world.versions.get(v).changes());
    }

    private List<Line> openText() {
        return textOf(opened.changes());
    }

    private TreeSet<Integer> life(Line l) {
        TreeSet<Integer> in = new TreeSet<>();
        for (Version v : world.versions) {
            if (l.stands(v.changes())) {
                in.add(v.number);
            }
        }
        return in;
    }

    // ---- the file

    int feed(int letter) {
        if (letter < 0 || letter > 255) {
            return OUTSIDE;
        }
        if (fed.length() == 240) {
            return FULL;
        }
        fed += (char) letter;
        return fed.length();
    }

    int weave() {
        String text = fed;
        fed = "";
        try {
            World read = new Parser(text).world();
            faultAt = NONE;
            world = read;
            opened = null;
            Arrays.fill(images, null);
            return world.versions.size();
        } catch (Fault f) {
            faultAt = f.place;
            return -10 - f.number;
        }
    }

    private static final class Parser {
        private final List<Token> tokens = new ArrayList<>();
        private final World world = new World();
        private int k = 0;

        Parser(String text) {
            for (int i = 0; i < text.length(); ) {
                int j = i;
                while (j < text.length() && text.charAt(j) >= '0' && text.charAt(j) <= '9') {
                    j++;
                }
                if (j > i) {
                    tokens.add(new Token('#', i, text.substring(i, j)));
                    i = j;
                } else {
                    char c = text.charAt(i);
                    // a '#' of the text must not be taken for a number
                    if (c != ' ') {
                        tokens.add(new Token(c == '#' ? '?' : c, i, ""));
                    }
                    i++;
                }
            }
            tokens.add(new Token((char) 999, text.length(), ""));
        }

        private Token want(char kind) {
            Token t = tokens.get(k);
            if (t.kind != kind) {
                throw new Fault(1, t.place);
            }
            k++;
            return t;
        }

        private Token older(boolean orNone) {
            Token t = want('#');
            boolean none = orNone && t.figures.equals("99");
            if (t.figures.length() > 2 || !none && t.value() >= world.versions.size()) {
                throw new Fault(2, t.place);
            }
            return t;
        }

        private boolean is(char kind) {
            return tokens.get(k).kind == kind;
        }

        World world() {
            while (is('v')) {
                version();
            }
            items(new ArrayList<>(), new ArrayList<>());
            want((char) 999);
            return world;
        }

        private void version() {
            if (world.versions.size() == 24) {
                throw new Fault(3, tokens.get(k).place);
            }
            k++;
            Version v = new Version();
            v.number = world.versions.size();
            int parent = older(true).value();
            v.parent = parent == 99 ? null : world.versions.get(parent);
            for (char mark : new char[] {'+', '-'}) {
                while (is(mark)) {
                    k++;
                    Token t = older(false);
                    if (v.includes.contains(t.value()) || v.excludes.contains(t.value())) {
                        throw new Fault(4, t.place);
                    }
                    (mark == '+' ? v.includes : v.excludes).add(t.value());
                }
            }
            want(';');
            world.versions.add(v);
        }

        private void items(List<Integer> bringers, List<Integer> takers) {
            while (true) {
                Token t = tokens.get(k);
                if (t.kind == 'i' || t.kind == 'd') {
                    k++;
                    inner(t.kind == 'i', bringers, takers);
                } else if (t.kind >= 'A' && t.kind <= 'Z') {
                    line(t, bringers, takers);
                    k++;
                } else {
                    return;
                }
            }
        }

        private void inner(boolean brings, List<Integer> bringers, List<Integer> takers) {
            Token t = older(false);
            int v = t.value();
            if (bringers.stream().anyMatch(b -> v <= b) || !brings && takers.contains(v)) {
                throw new Fault(4, t.place);
            }
            want('(');
            List<Integer> more = new ArrayList<>(brings ? bringers : takers);
            more.add(v);
            items(brings ? more : bringers, brings ? takers : more);
            want(')');
        }

        private void line(Token t, List<Integer> bringers, List<Integer> takers) {
            if (bringers.isEmpty()) {
                throw new Fault(1, t.place);
            }
            if (world.lines.size() == 120) {
                throw new Fault(3, t.place);
            }
            int by = bringers.get(bringers.size() - 1);
            if (takers.stream().anyMatch(d -> d <= by)) {
                throw new Fault(4, t.place);
            }
            world.lines.add(new Line(t.kind, by, new TreeSet<>(takers)));
        }
    }

    int fault() {
        return faultAt;
    }

    private List<int[]> blocks() {
        List<int[]> runs = new ArrayList<>();
        Line last = null;
        for (int i = 0; i < world.lines.size(); i++) {
            Line l = world.lines.get(i);
            if (last != null && last.brought == l.brought && last.took.equals(l.took)) {
                runs.get(runs.size() - 1)[1]++;
            } else {
                runs.add(new int[] {i, 1});
            }
            last = l;
        }
        return runs;
    }

    int told(int what) {
        return switch (what) {
            case 0 -> world.versions.size();
            case 1 -> world.lines.size();
            case 2 -> opened == null || opened.parent == null ? NONE : opened.parent.number;
            case 3 -> opened == null ? 0 : 1;
            case 4 -> opened == null ? 0 : openText().size();
            case 5 -> blocks().size();
            case 6 -> world.lines.stream().mapToInt(l -> 1 + l.took.size()).max().orElse(0);
            case 7 -> (int) world.lines.stream().filter(l -> life(l).isEmpty()).count();
            case 8 -> fed.length();
            case 9 -> (int) Arrays.stream(sheets).filter(Objects::nonNull).count();
            default -> OUTSIDE;
        };
    }

    int version(int n, int what) {
        if (!has(n)) {
            return UNKNOWN;
        }
        Version v = world.versions.get(n);
        return switch (what) {
            case 0 -> v.parent == null ? NONE : v.parent.number;
            case 1 -> number(v.changes());
            case 2 -> number(v.includes);
            case 3 -> number(v.excludes);
            case 4 -> textOf(n).size();
            case 5 -> (int) world.lines.stream().filter(l -> l.brought == n).count();
            case 6 -> (int) world.lines.stream().filter(l -> l.took.contains(n)).count();
            default -> OUTSIDE;
        };
    }

    int line(int i, int what) {
        if (i < 0 || i >= world.lines.size()) {
            return UNKNOWN;
        }
        Line l = world.lines.get(i);
        return switch (what) {
            case 0 -> l.letter;
            case 1 -> l.brought;
            case 2 -> number(l.took);
            case 3 -> number(life(l));
            default -> OUTSIDE;
        };
    }

    int text(int v, int i, int what) {
        if (v != NONE && !has(v)) {
            return UNKNOWN;
        }
        if (i < 0 || what < 0 || what > 2) {
            return OUTSIDE;
        }
        if (v == NONE && opened == null) {
            return NOT;
        }
        List<Line> text = v == NONE ? openText() : textOf(v);
        if (i >= text.size()) {
            return NONE;
        }
        Line l = text.get(i);
        return what == 0 ? l.letter : what == 1 ? l.brought : world.lines.indexOf(l);
    }

    // ---- what is done

    int open(int v) {
        if (v != NONE && !has(v)) {
            return UNKNOWN;
        }
        if (opened != null) {
            return NOT;
        }
        if (world.versions.size() == 24) {
            return FULL;
        }
        before = world.copy();
        opened = new Version();
        opened.number = world.versions.size();
        opened.parent = v == NONE ? null : world.versions.get(v);
        return opened.number;
    }

    int include(int v) {
        if (!has(v)) {
            return UNKNOWN;
        }
        if (opened == null || opened.changes().contains(v)) {
            return NOT;
        }
        opened.excludes.remove(v);
        opened.includes.add(v);
        return openText().size();
    }

    int exclude(int v) {
        if (!has(v)) {
            return UNKNOWN;
        }
        if (opened == null || !opened.changes().contains(v)) {
            return NOT;
        }
        opened.includes.remove(v);
        opened.excludes.add(v);
        return openText().size();
    }

    int put(int i, int letter) {
        if (i < 0 || letter < 'A' || letter > 'Z') {
            return OUTSIDE;
        }
        if (opened == null || i > openText().size()) {
            return NOT;
        }
        if (world.lines.size() == 120) {
            return FULL;
        }
        int at = i == 0 ? 0 : 1 + world.lines.indexOf(openText().get(i - 1));
        world.lines.add(at, new Line((char) letter, opened.number, new TreeSet<>()));
        return at;
    }

    int take(int i) {
        if (i < 0) {
            return OUTSIDE;
        }
        if (opened == null || i >= openText().size()) {
            return NOT;
        }
        Line l = openText().get(i);
        if (l.brought == opened.number) {
            world.lines.remove(l);
        } else {
            l.took.add(opened.number);
        }
        return l.letter;
    }

    int close() {
        if (opened == null) {
            return NOT;
        }
        world.versions.add(opened);
        opened = null;
        return world.versions.size() - 1;
    }

    int leave() {
        if (opened == null) {
            return NOT;
        }
        int had = openText().size();
        world = before;
        opened = null;
        return had;
    }

    private long lot;

    private int lot(int by) {
        lot = lot * 16807 % 2147483647;
        return (int) (lot % by);
    }

    int drift(int n, int seed) {
        if (n < 1 || n > 24 || seed < 1 || seed > 999999) {
            return OUTSIDE;
        }
        if (opened != null || world.versions.isEmpty()) {
            return NOT;
        }
        lot = seed;
        for (int k = 0; k < n && world.versions.size() < 24; k++) {
            open(lot(world.versions.size()));
            for (int turn = 0; turn < 3; turn++) {
                if (lot(3) < 2) {
                    if (world.lines.size() == 120) {
                        close();
                        return world.versions.size();
                    }
                    int letter = 65 + lot(26);
                    put(lot(openText().size() + 1), letter);
                } else if (!openText().isEmpty()) {
                    take(lot(openText().size()));
                }
            }
            close();
        }
        return world.versions.size();
    }

    // ---- asked

    int share(int v, int u) {
        if (!has(v) || !has(u)) {
            return UNKNOWN;
        }
        return (int) textOf(v).stream().filter(l -> l.brought == u).count();
    }

    int alike(int u, int v, int what) {
        if (!has(v) || !has(u) || u == v) {
            return UNKNOWN;
        }
        List<Line> one = textOf(u);
        List<Line> other = textOf(v);
        List<Line> both = new ArrayList<>(one);
        both.retainAll(other);
        int part = 0;
        while (part < one.size() && part < other.size() && one.get(part) == other.get(part)) {
            part++;
        }
        return switch (what) {
            case 0 -> both.size();
            case 1 -> one.size() - both.size();
            case 2 -> other.size() - both.size();
            case 3 -> part == one.size() && part == other.size() ? NONE : part;
            default -> OUTSIDE;
        };
    }

    int without(int v, int u) {
        if (!has(v) || !has(u) || u == v) {
            return UNKNOWN;
        }
        TreeSet<Integer> changes = world.versions.get(v).changes();
        changes.remove(u);
        return textOf(changes).size();
    }

    int near(int u, int v) {
        if (!has(v) || !has(u) || u == v) {
            return UNKNOWN;
        }
        int best = NONE;
        for (Version a = world.versions.get(u); a != null; a = a.parent) {
            for (Version b = world.versions.get(v); b != null; b = b.parent) {
                best = a == b ? Math.max(best, a.number) : best;
            }
        }
        return best;
    }

    int block(int b, int what) {
        if (b < 0 || what < 0 || what > 1) {
            return OUTSIDE;
        }
        List<int[]> runs = blocks();
        return b < runs.size() ? runs.get(b)[what] : NONE;
    }

    // ---- sheets

    private static boolean isSheet(int s) {
        return s >= 0 && s < 4;
    }

    int sheet(int s, int n) {
        if (!isSheet(s)) {
            return UNKNOWN;
        }
        if (n < 0 || n > 40) {
            return OUTSIDE;
        }
        sheets[s] = new long[n];
        return n;
    }

    long set(int s, int i, long v) {
        long was = get(s, i);
        if (isSheet(s) && sheets[s] != null && i >= 0 && i < sheets[s].length) {
            sheets[s][i] = v;
        }
        return was;
    }

    long get(int s, int i) {
        if (!isSheet(s)) {
            return UNKNOWN;
        }
        if (sheets[s] == null) {
            return NULL;
        }
        return i < 0 || i >= sheets[s].length ? PLACE : sheets[s][i];
    }

    int drop(int s) {
        if (!isSheet(s)) {
            return UNKNOWN;
        }
        if (sheets[s] == null) {
            return NULL;
        }
        int had = sheets[s].length;
        sheets[s] = null;
        return had;
    }

    int film(int v, int s, int i) {
        if (!has(v) || !isSheet(s)) {
            return UNKNOWN;
        }
        if (sheets[s] == null) {
            return NULL;
        }
        List<Line> text = textOf(v);
        if (i < 0 || (long) i + text.size() > sheets[s].length) {
            return PLACE;
        }
        for (int k = 0; k < text.size(); k++) {
            Line l = text.get(k);
            sheets[s][i + k] = l.letter + 256L * l.brought + 65536L * number(life(l));
        }
        return text.size();
    }

    int isFilm(int v, int s, int i, int n) {
        if (!has(v) || !isSheet(s)) {
            return UNKNOWN;
        }
        if (n < 0) {
            return OUTSIDE;
        }
        if (sheets[s] == null) {
            return NULL;
        }
        if (i < 0 || (long) i + n > sheets[s].length) {
            return PLACE;
        }
        StringBuilder due = new StringBuilder();
        StringBuilder there = new StringBuilder();
        textOf(v).forEach(l -> due.append(l.letter));
        for (int k = i; k < i + n; k++) {
            there.append((char) (sheets[s][k] & 255));
        }
        return due.compareTo(there) == 0 ? 1 : 0;
    }

    // ---- images

    int keep(int i) {
        if (i < 0 || i > 1) {
            return UNKNOWN;
        }
        if (opened != null) {
            return NOT;
        }
        images[i] = world.copy();
        return world.versions.size();
    }

    int goBack(int i) {
        if (i < 0 || i > 1) {
            return UNKNOWN;
        }
        if (images[i] == null) {
            return NOT;
        }
        world = images[i].copy();
        opened = null;
        return world.versions.size();
    }
}
