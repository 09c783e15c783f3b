import java.util.Random;

/** Long runs of calls, made by a fixed seed, whose every answer is held against the model's. */
public final class ModelTests {
    private static final int RUNS = 2500;
    private static final int CALLS = 512;
    private static final int[] FAR = {
        Integer.MIN_VALUE, Integer.MIN_VALUE + 1, -1000000001, -2, -1, 24, 32, 40, 41, 64, 91, 120,
        121, 240, 256, 1000000, Integer.MAX_VALUE - 40, Integer.MAX_VALUE};

    private final Random random;
    private final WovenHistory x = new WovenHistory();
    private final Model m = new Model();
    private final Check check;
    private final int run;
    private int calls = 0;

    private ModelTests(int run, Check check) {
        this.run = run;
        this.random = new Random(run);
        this.check = check;
    }

    public static void main(String[] args) {
        Check check = new Check();
        for (int run = 0; run < RUNS; run++) {
            new ModelTests(run, check).go();
        }
        check.end("ModelTests");
    }

    private void due(String call, long got, long want) {
        calls++;
        check.due("run " + run + ", call " + calls + ": " + call, got, want);
    }

    private void go() {
        while (calls < CALLS) {
            if (random.nextInt(60) == 0) {
                tell(random.nextInt(3) == 0 ? broken(history()) : history());
            } else if (random.nextInt(25) == 0) {
                lookOver();
            } else {
                one();
            }
        }
    }

    /** A number below a bound as a rule, and one far off now and then. */
    private int some(int bound) {
        if (random.nextInt(40) == 0) {
            return FAR[random.nextInt(FAR.length)];
        }
        return random.nextInt(bound + 2) - 1;
    }

    private int version() {
        return random.nextInt(4) == 0 ? some(24) : some(Math.max(1, m.told(0)));
    }

    // ---- told texts

    private String blank() {
        return random.nextInt(30) == 0 ? " " : "";
    }

    private String number(int v) {
        return blank() + (v < 10 && random.nextInt(12) == 0 ? "0" : "") + v + blank();
    }

    private String history() {
        StringBuilder b = new StringBuilder();
        int versions = random.nextInt(6) == 0 ? random.nextInt(26) : random.nextInt(7);
        for (int v = 0; v < versions; v++) {
            int parent = v == 0 || random.nextInt(9) == 0 ? 99 : random.nextInt(v);
            b.append('v').append(number(parent));
            others(b, v);
            b.append(';').append(blank());
        }
        int before = -1;
        while (versions > 0 && b.length() < 215 && b.length() != before && random.nextInt(9) != 0) {
            before = b.length();
            items(b, versions, 0, -1, 0);
        }
        return b.toString();
    }

    private void others(StringBuilder b, int v) {
        int told = 0;
        for (char mark : new char[] {'+', '-'}) {
            for (int k = 0; v > 0 && k < 3 && random.nextInt(4) == 0; k++) {
                int other = random.nextInt(v);
                if ((told >> other & 1) == 0 || random.nextInt(9) == 0) {
                    b.append(mark).append(number(other));
                    told |= 1 << other;
                }
            }
        }
    }

    private void items(StringBuilder b, int versions, int depth, int bringer, int takers) {
        int n = random.nextInt(5);
        for (int k = 0; k < n && b.length() < 215; k++) {
            int v = random.nextInt(versions);
            int kind = random.nextInt(4);
            if (kind < 2 && bringer >= 0) {
                int lines = random.nextInt(12) == 0 ? 60 : 1 + random.nextInt(3);
                for (int i = 0; i < lines && (takers & ((2 << bringer) - 1)) == 0; i++) {
                    b.append((char) ('A' + random.nextInt(26))).append(blank());
                }
            } else if (kind == 2 && (v > bringer || random.nextInt(40) == 0)) {
                b.append('i').append(number(v)).append('(').append(blank());
                items(b, versions, depth + 1, v, takers);
                b.append(')');
            } else if (kind == 3 && v > bringer && (takers >> v & 1) == 0 && depth < 6) {
                b.append('d').append(number(v)).append('(');
                items(b, versions, depth + 1, bringer, takers | 1 << v);
                b.append(')').append(blank());
            }
        }
    }

    private String broken(String text) {
        StringBuilder b = new StringBuilder(text);
        String signs = "vid()+-; 0123459AZ@[#~\t";
        int n = 1 + random.nextInt(2);
        for (int k = 0; k < n; k++) {
            int at = random.nextInt(b.length() + 1);
            char sign = signs.charAt(random.nextInt(signs.length()));
            int how = random.nextInt(4);
            if (how == 0) {
                b.insert(at, sign);
            } else if (how == 1 && at < b.length()) {
                b.setCharAt(at, sign);
            } else if (how == 2 && at < b.length()) {
                b.deleteCharAt(at);
            } else if (how == 3) {
                b.setLength(at);
            }
        }
        return b.toString();
    }

    private void tell(String text) {
        if (calls + text.length() + 2 > CALLS) {
            calls = CALLS;
            return;
        }
        for (int k = 0; k < text.length(); k++) {
            int letter = text.charAt(k);
            due("feed(" + letter + ")", x.feed(letter), m.feed(letter));
        }
        due("weave() of " + text, x.weave(), m.weave());
        due("fault() of " + text, x.fault(), m.fault());
    }

    // ---- calls

    private void lookOver() {
        for (int what = 0; what <= 9; what++) {
            due("told(" + what + ")", x.told(what), m.told(what));
        }
        int v = version();
        for (int what = 0; what <= 6; what++) {
            due("version(" + v + ", " + what + ")", x.version(v, what), m.version(v, what));
        }
        int i = some(Math.max(1, m.told(1)));
        for (int what = 0; what <= 3; what++) {
            due("line(" + i + ", " + what + ")", x.line(i, what), m.line(i, what));
        }
    }

    private void one() {
        int kind = random.nextInt(29);
        if (kind < 7) {
            askFile(kind);
        } else if (kind < 15) {
            act(kind);
        } else if (kind < 20) {
            ask(kind);
        } else if (kind < 26) {
            useSheets(kind);
        } else {
            useImages(kind);
        }
    }

    private void askFile(int kind) {
        int v = version();
        int i = some(Math.max(6, m.told(1)));
        int what = some(4);
        switch (kind) {
            case 0 -> due("told", x.told(what * 3), m.told(what * 3));
            case 1 -> due("version(" + v + ", " + what + ")", x.version(v, what), m.version(v, what));
            case 2, 3 -> due("line(" + i + ", " + what + ")", x.line(i, what), m.line(i, what));
            case 4 -> due("fault()", x.fault(), m.fault());
            case 5 -> {
                if (random.nextInt(40) == 0) {
                    due("weave()", x.weave(), m.weave());
                } else if (random.nextInt(5) == 0) {
                    due("feed(" + i + ")", x.feed(i), m.feed(i));
                }
            }
            default -> due("text(" + v + ", " + i + ", " + what + ")", x.text(v, i, what), m.text(v, i, what));
        }
    }

    private void act(int kind) {
        int v = version();
        int i = some(Math.max(1, m.told(4)));
        switch (kind) {
            case 7 -> due("open(" + v + ")", x.open(v), m.open(v));
            case 8 -> due("include(" + v + ")", x.include(v), m.include(v));
            case 9 -> due("exclude(" + v + ")", x.exclude(v), m.exclude(v));
            case 10, 11 -> {
                int letter = 65 + some(26);
                int n = random.nextInt(8) == 0 ? 20 : 1;
                for (int k = 0; k < n; k++) {
                    due("put(" + i + ", " + letter + ")", x.put(i, letter), m.put(i, letter));
                }
            }
            case 12 -> due("take(" + i + ")", x.take(i), m.take(i));
            case 13 -> {
                if (random.nextInt(3) == 0) {
                    due("leave()", x.leave(), m.leave());
                } else {
                    due("close()", x.close(), m.close());
                }
            }
            default -> {
                int n = random.nextInt(3) == 0 ? some(25) : some(3);
                int seed = random.nextInt(9) == 0 ? some(3) : 1 + random.nextInt(999999);
                due("drift(" + n + ", " + seed + ")", x.drift(n, seed), m.drift(n, seed));
            }
        }
    }

    private void ask(int kind) {
        int u = version();
        int v = version();
        int what = some(4);
        switch (kind) {
            case 15 -> due("share(" + u + ", " + v + ")", x.share(u, v), m.share(u, v));
            case 16 -> due("alike(" + u + ", " + v + ", " + what + ")", x.alike(u, v, what), m.alike(u, v, what));
            case 17 -> due("without(" + u + ", " + v + ")", x.without(u, v), m.without(u, v));
            case 18 -> due("near(" + u + ", " + v + ")", x.near(u, v), m.near(u, v));
            default -> {
                int b = some(12);
                due("block(" + b + ", " + what % 2 + ")", x.block(b, what % 2), m.block(b, what % 2));
            }
        }
    }

    private void useSheets(int kind) {
        int s = some(4);
        int i = random.nextInt(3) == 0 ? some(41) : some(4);
        int v = version();
        switch (kind) {
            case 20 -> due("sheet(" + s + ", " + i + ")", x.sheet(s, i * 3), m.sheet(s, i * 3));
            case 21 -> {
                long n = random.nextLong();
                due("set(" + s + ", " + i + ")", x.set(s, i, n), m.set(s, i, n));
            }
            case 22 -> due("get(" + s + ", " + i + ")", x.get(s, i), m.get(s, i));
            case 23 -> {
                if (random.nextInt(3) == 0) {
                    due("drop(" + s + ")", x.drop(s), m.drop(s));
                }
            }
            case 24 -> due("film(" + v + ", " + s + ", " + i + ")", x.film(v, s, i), m.film(v, s, i));
            default -> checkFilm(v, s, i);
        }
    }

    private void checkFilm(int v, int s, int i) {
        if (random.nextBoolean()) {
            due("film(" + v + ", " + s + ", " + i + ")", x.film(v, s, i), m.film(v, s, i));
        }
        int lines = m.version(v, 4);
        int n = lines >= 0 && random.nextInt(3) != 0 ? lines : some(12);
        int u = random.nextInt(4) == 0 ? version() : v;
        due("isFilm(" + u + ", " + s + ", " + i + ", " + n + ")", x.isFilm(u, s, i, n), m.isFilm(u, s, i, n));
    }

    private void useImages(int kind) {
        int i = some(2);
        if (kind < 28) {
            due("keep(" + i + ")", x.keep(i), m.keep(i));
        } else if (random.nextInt(4) == 0) {
            due("goBack(" + i + ")", x.goBack(i), m.goBack(i));
        }
    }
}
