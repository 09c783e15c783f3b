/** For each promise of the document: ordinary inputs, its edges, and wrong inputs. */
public final class PromiseTests {
    private static final int NONE = -1;
    private static final int UNKNOWN = -1000000001;
    private static final int OUTSIDE = -1000000002;
    private static final int NOT = -1000000003;
    private static final int FULL = -1000000004;
    private static final int NULL = -1000000011;
    private static final int PLACE = -1000000012;

    /** Six versions: 0; 1 on 0; 2 on 1; 3 on 0; 4 on 3 with 2; 5 on 4 without 3. */
    private static final String SIX =
            "v99;v0;v1;v0;v3+2;v4-3;i0(ABd1(C)Dd2(E)i3(XY)Fd4(d5(G)))i1(P)i2(Qd4(R))";

    private static final Check CHECK = new Check();

    private PromiseTests() {
    }

    public static void main(String[] args) {
        promise01NewObject();
        promise02Feed();
        promise03Weave();
        promise03WeaveKeepsWhatItMust();
        promise04FaultPlaces();
        promise04FaultsOfVersions();
        promise04FaultsOfItems();
        promise04FaultsByAge();
        promise04FaultsByNumber();
        promise05Told();
        promise06Version();
        promise07Line();
        promise08Text();
        promise09Open();
        promise10Include();
        promise11Exclude();
        promise12Put();
        promise13Take();
        promise14Close();
        promise15Leave();
        promise16Drift();
        promise16DriftWithoutRoom();
        promise17Share();
        promise18Alike();
        promise19Without();
        promise20Near();
        promise21Block();
        promise22Sheet();
        promise23Set();
        promise24Get();
        promise25Drop();
        promise26Film();
        promise27IsFilm();
        promise28Keep();
        promise29GoBack();
        CHECK.end("PromiseTests");
    }

    private static void due(String call, long got, long want) {
        CHECK.due(call, got, want);
    }

    private static void feedAll(WovenHistory x, String text) {
        for (int k = 0; k < text.length(); k++) {
            x.feed(text.charAt(k));
        }
    }

    private static WovenHistory woven(String text) {
        WovenHistory x = new WovenHistory();
        feedAll(x, text);
        CHECK.holds("no fault in " + text, x.weave() >= 0);
        return x;
    }

    private static void fault(String text, int number, int place) {
        WovenHistory x = new WovenHistory();
        feedAll(x, text);
        due("weave() of " + text, x.weave(), -10 - number);
        due("fault() of " + text, x.fault(), place);
    }

    private static void noFault(String text, int versions, int lines) {
        WovenHistory x = new WovenHistory();
        feedAll(x, text);
        due("weave() of " + text, x.weave(), versions);
        due("fault() of " + text, x.fault(), NONE);
        due("told(1) of " + text, x.told(1), lines);
    }

    private static String textOf(WovenHistory x, int v) {
        StringBuilder b = new StringBuilder();
        for (int i = 0; i < 130 && x.text(v, i, 0) != NONE; i++) {
            b.append((char) x.text(v, i, 0));
        }
        return b.toString();
    }

    private static void dueText(WovenHistory x, int v, String want) {
        String got = textOf(x, v);
        CHECK.holds("text of " + v + " is " + got + ", due is " + want, got.equals(want));
    }

    private static void promise01NewObject() {
        WovenHistory x = new WovenHistory();
        for (int what = 0; what <= 9; what++) {
            due("1: told(" + what + ")", x.told(what), what == 2 ? NONE : 0);
        }
        due("1: fault()", x.fault(), NONE);
        for (int s = 0; s < 4; s++) {
            due("1: drop(" + s + ")", x.drop(s), NULL);
        }
        due("1: version(0, 0)", x.version(0, 0), UNKNOWN);
        due("1: line(0, 0)", x.line(0, 0), UNKNOWN);
        due("1: goBack(0)", x.goBack(0), NOT);
        due("1: close()", x.close(), NOT);
    }

    private static void promise02Feed() {
        WovenHistory x = new WovenHistory();
        due("2: feed(-1)", x.feed(-1), OUTSIDE);
        due("2: feed(256)", x.feed(256), OUTSIDE);
        due("2: feed(0)", x.feed(0), 1);
        due("2: feed(255)", x.feed(255), 2);
        due("2: told(8)", x.told(8), 2);
        for (int k = 3; k <= 240; k++) {
            due("2: feed(32)", x.feed(32), k);
        }
        due("2: a 241st", x.feed(32), FULL);
        due("2: a 241st outside", x.feed(300), OUTSIDE);
        due("2: told(8)", x.told(8), 240);
        x.weave();
        due("2: feed behind weave()", x.feed(32), 1);
    }

    private static void promise03Weave() {
        noFault("", 0, 0);
        noFault("    ", 0, 0);
        noFault("v99;", 1, 0);
        noFault("v99;i0()", 1, 0);
        noFault("v99;d0(i0())d0()", 1, 0);
        noFault(" v 99 ; v 0 + 0 ; i 0 ( A ) ", 2, 1);
        noFault("v99;v00;i01(A)i00(Z)", 2, 2);
        noFault("v99;v0;v1-1-0;v0+1+2;", 4, 0);
        WovenHistory x = woven("v99;v0;v1-1-0;v0+1+2;");
        due("3: changes of 2", x.version(2, 1), 4);
        due("3: excludes of 2", x.version(2, 3), 3);
        due("3: changes of 3", x.version(3, 1), 15);
        due("3: includes of 3", x.version(3, 2), 6);

        x = woven("v99;v0;v0;v1;i0(Ai1(B)Cd3(Dd2(E)))d3(i2(F))");
        due("3: lines", x.told(1), 6);
        int[] brought = {0, 1, 0, 0, 0, 2};
        int[] took = {0, 0, 0, 8, 12, 8};
        for (int i = 0; i < 6; i++) {
            due("3: letter of " + i, x.line(i, 0), 'A' + i);
            due("3: bringer of " + i, x.line(i, 1), brought[i]);
            due("3: takers of " + i, x.line(i, 2), took[i]);
        }
    }

    private static void promise03WeaveKeepsWhatItMust() {
        WovenHistory x = woven("v99;i0(AB)");
        due("3: sheet(1, 2)", x.sheet(1, 2), 2);
        x.set(1, 0, 7);
        due("3: keep(0)", x.keep(0), 1);
        due("3: open(0)", x.open(0), 1);
        x.put(0, 'Z');
        x.include(0);
        feedAll(x, "v99;v5;");
        due("3: a fault", x.weave(), -12);
        due("3: nothing is fed then", x.told(8), 0);
        due("3: still OPEN", x.told(3), 1);
        dueText(x, NONE, "ZAB");
        due("3: the image is there", x.goBack(0), 1);
        due("3: lines", x.told(1), 2);

        x.open(0);
        feedAll(x, "v99;v99;i1(Q)");
        due("3: weave()", x.weave(), 2);
        due("3: nothing is fed then", x.told(8), 0);
        due("3: nothing is OPEN", x.told(3), 0);
        due("3: leave()", x.leave(), NOT);
        dueText(x, 0, "");
        dueText(x, 1, "Q");
        due("3: images are gone", x.goBack(0), NOT);
        due("3: sheets stay", x.get(1, 0), 7);
        due("3: an empty text", x.weave(), 0);
        due("3: no versions", x.told(0), 0);
        due("3: no lines", x.told(1), 0);
    }

    private static void promise04FaultPlaces() {
        WovenHistory x = new WovenHistory();
        due("4: fault() at first", x.fault(), NONE);
        feedAll(x, "v99;x");
        due("4: weave()", x.weave(), -11);
        due("4: fault()", x.fault(), 4);
        due("4: fault() again", x.fault(), 4);
        x.feed('v');
        x.open(NONE);
        due("4: fault() stays", x.fault(), 4);
        due("4: weave()", x.weave(), -11);
        due("4: fault() at the end", x.fault(), 1);
        due("4: weave() of nothing", x.weave(), 0);
        due("4: fault() is gone", x.fault(), NONE);
    }

    private static void promise04FaultsOfVersions() {
        fault("v", 1, 1);
        fault("v  ", 1, 3);
        fault("v;", 1, 1);
        fault("v99", 1, 3);
        fault("v99 ", 1, 4);
        fault("v99+;", 1, 4);
        fault("v99i", 1, 3);
        fault("v99;v0 0;", 1, 7);
        fault("v99;v0-0+0;", 1, 8);
        fault("v99;;", 1, 4);
        fault("v99;V99;", 1, 4);
        fault("v99;\t", 1, 4);
        fault("v0;", 2, 1);
        fault("v099;", 2, 1);
        fault("v000;", 2, 1);
        fault("v 1234", 2, 2);
        fault("v98;", 2, 1);
        fault("v99;v1;", 2, 5);
        fault("v99+0;", 2, 4);
        fault("v99;v0+1;", 2, 7);
        fault("v99;v0+99;", 2, 7);
        fault("v99;v0-01;", 2, 7);
        fault("v99;v0- 99;", 2, 8);
        fault("v99;v0+000;", 2, 7);
        fault("v99;v0+0+0;", 4, 9);
        fault("v99;v0+0-0;", 4, 9);
        fault("v99;v0-0- 00;", 4, 10);
        fault("v99;v0-0-", 1, 9);
    }

    private static void promise04FaultsOfItems() {
        fault("A", 1, 0);
        fault(")", 1, 0);
        fault("0", 1, 0);
        fault("(", 1, 0);
        fault("i", 1, 1);
        fault("i0", 2, 1);
        fault("v99;i", 1, 5);
        fault("v99;i0", 1, 6);
        fault("v99;i0A", 1, 6);
        fault("v99;i0(", 1, 7);
        fault("v99;i0(A  ", 1, 10);
        fault("v99;i0(A))", 1, 9);
        fault("v99;i0(A)B", 1, 9);
        fault("v99;i0(a)", 1, 7);
        fault("v99;i0(@)", 1, 7);
        fault("v99;i0([)", 1, 7);
        fault("v99;i0(A)v0;", 1, 9);
        fault("v99;i0(v0;)", 1, 7);
        fault("v99;d0(A)", 1, 7);
        fault("v99;d0(i0()A)", 1, 11);
        fault("v99;i99()", 2, 5);
        fault("v99;d1()", 2, 5);
        fault("v99;i000()", 2, 5);
        fault("v99;i 123", 2, 6);
        fault("v99;i0 0()", 1, 7);
        fault("v99;i+0()", 1, 5);
    }

    private static void promise04FaultsByAge() {
        String three = "v99;v0;v1;";
        fault(three + "i1(i1(", 4, 14);
        fault(three + "i1(i 0", 4, 15);
        fault(three + "i1(d2(i00", 4, 17);
        fault(three + "i1(d1(", 4, 14);
        fault(three + "i1(d0(", 4, 14);
        fault(three + "i0(i1(d1(", 4, 17);
        fault(three + "d2(d2(", 4, 14);
        fault(three + "d2(d1(d02(", 4, 17);
        fault(three + "d2(i0(d1(d2(", 4, 20);
        fault(three + "d0(i0(A", 4, 16);
        fault(three + "d1(i1(A", 4, 16);
        fault(three + "d1(i2(A", 4, 16);
        fault(three + "i0(d1(i2(A", 4, 19);
        fault(three + "d2(d1(i1( A", 4, 20);
        noFault(three + "d1(i1()i0(A))", 3, 1);
        noFault(three + "d2(d1(i0(A)))d1(d2(i0(B)))", 3, 2);
        noFault(three + "i1()i0(i2(A)i1(B))d1()d1()", 3, 2);
    }

    private static void promise04FaultsByNumber() {
        String full = "v99;" + "v0;".repeat(23);
        noFault(full, 24, 0);
        noFault(full + "i23()", 24, 0);
        fault(full + "v0;", 3, full.length());
        fault(full + " v", 3, full.length() + 1);
        fault(full + "i0()v0;", 1, full.length() + 4);
        fault(full + "i24()", 2, full.length() + 1);
        nestedAsDeepAsCanBe();
        String lines = "v99;v0;i0(" + "A".repeat(120);
        noFault(lines + ")", 2, 120);
        fault(lines + "B)", 3, 130);
        fault(lines + ")B", 1, 131);
        fault(lines + ")d0(i0(B", 3, 137);
        fault(lines + ")d0(i0(", 1, 137);
        fault(lines + ")i1(d1(", 4, 135);
    }

    /** Each of fifteen versions brings and takes around one place: a line there cannot stand. */
    private static void nestedAsDeepAsCanBe() {
        StringBuilder b = new StringBuilder("v99;" + "v0;".repeat(14));
        for (int v = 14; v >= 0; v--) {
            b.append('d').append(v).append('(');
        }
        for (int v = 0; v < 15; v++) {
            b.append('i').append(v).append('(');
        }
        noFault(b + ")".repeat(30), 15, 0);
        fault(b + ")".repeat(31), 1, b.length() + 30);
        fault(b + ")".repeat(29), 1, b.length() + 29);
        fault(b + "A", 4, b.length());
        fault(b + "d14(", 4, b.length() + 1);
    }

    private static void promise05Told() {
        WovenHistory x = woven(SIX);
        due("5: told(-1)", x.told(-1), OUTSIDE);
        due("5: told(10)", x.told(10), OUTSIDE);
        due("5: VERSIONS", x.told(0), 6);
        due("5: LINES", x.told(1), 12);
        due("5: BLOCKS", x.told(5), 10);
        due("5: NEST", x.told(6), 3);
        due("5: GONE", x.told(7), 0);
        x.feed(1);
        due("5: letters", x.told(8), 1);
        x.sheet(0, 0);
        x.sheet(3, 5);
        x.sheet(3, 6);
        due("5: SHEETS", x.told(9), 2);
        x.drop(0);
        due("5: SHEETS", x.told(9), 1);

        x.open(2);
        due("5: goes on from", x.told(2), 2);
        due("5: OPEN", x.told(3), 1);
        due("5: its LINES", x.told(4), 8);
        x.put(0, 'K');
        x.take(1);
        due("5: VERSIONS, not the OPEN one", x.told(0), 6);
        due("5: LINES with the OPEN one's", x.told(1), 13);
        due("5: its LINES", x.told(4), 8);
        due("5: BLOCKS", x.told(5), 12);
        due("5: GONE", x.told(7), 1);
        x.close();
        due("5: GONE", x.told(7), 0);
        due("5: goes on from", x.told(2), NONE);
        due("5: its LINES", x.told(4), 0);
        x.open(NONE);
        due("5: goes on from none", x.told(2), NONE);
        due("5: OPEN", x.told(3), 1);

        x = woven("v99;v0;v99;i0(d1(A)B)d2(d1(i0(C)))");
        due("5: NEST", x.told(6), 3);
        due("5: GONE", x.told(7), 0);
        x = woven("v99;v0-0;v1;i1(d2(A))d1(i0(B))");
        due("5: a version without its own base", x.version(1, 1), 2);
        due("5: GONE", x.told(7), 0);
        x = woven("v99;");
        due("5: no LINES, no NEST", x.told(6), 0);
    }

    private static void promise06Version() {
        WovenHistory x = woven(SIX);
        due("6: version(-1, 0)", x.version(-1, 0), UNKNOWN);
        due("6: version(6, 0)", x.version(6, 0), UNKNOWN);
        due("6: version(6, 9)", x.version(6, 9), UNKNOWN);
        due("6: version(5, 7)", x.version(5, 7), OUTSIDE);
        due("6: version(5, -1)", x.version(5, -1), OUTSIDE);
        int[][] want = {
            {NONE, 1, 0, 0, 7, 7, 0}, {0, 3, 0, 0, 7, 1, 1}, {1, 7, 0, 0, 8, 2, 1},
            {0, 9, 0, 0, 9, 2, 0}, {3, 29, 4, 0, 8, 0, 2}, {4, 53, 0, 8, 6, 0, 1}};
        for (int v = 0; v < 6; v++) {
            for (int what = 0; what < 7; what++) {
                due("6: version(" + v + ", " + what + ")", x.version(v, what), want[v][what]);
            }
        }
        x.open(0);
        due("6: the OPEN one", x.version(6, 0), UNKNOWN);

        x = woven("v99;v0;v0;v99;i0(d1(" + "A".repeat(119) + ")d2(B))");
        due("6: LINES", x.version(0, 4), 120);
        due("6: LINES", x.version(1, 4), 1);
        due("6: LINES", x.version(2, 4), 119);
        due("6: LINES", x.version(3, 4), 0);
        due("6: BROUGHT", x.version(0, 5), 120);
        due("6: TOOK", x.version(1, 6), 119);
        due("6: TOOK", x.version(2, 6), 1);
    }

    private static void promise07Line() {
        WovenHistory x = woven(SIX);
        due("7: line(-1, 0)", x.line(-1, 0), UNKNOWN);
        due("7: line(12, 0)", x.line(12, 0), UNKNOWN);
        due("7: line(12, 4)", x.line(12, 4), UNKNOWN);
        due("7: line(11, 4)", x.line(11, 4), OUTSIDE);
        due("7: line(11, -1)", x.line(11, -1), OUTSIDE);
        int[][] want = {
            {'A', 0, 0, 63}, {'B', 0, 0, 63}, {'C', 0, 2, 57}, {'D', 0, 0, 63},
            {'E', 0, 4, 11}, {'X', 3, 0, 24}, {'Y', 3, 0, 24}, {'F', 0, 0, 63},
            {'G', 0, 48, 15}, {'P', 1, 0, 6}, {'Q', 2, 0, 52}, {'R', 2, 16, 4}};
        for (int i = 0; i < 12; i++) {
            for (int what = 0; what < 4; what++) {
                due("7: line(" + i + ", " + what + ")", x.line(i, what), want[i][what]);
            }
        }
        x.open(5);
        x.take(0);
        due("7: taken by the OPEN one", x.line(0, 2), 64);
        due("7: LIFE is of what is closed", x.line(0, 3), 63);
        x.close();
        due("7: LIFE", x.line(0, 3), 63);
        due("7: LIFE", x.line(1, 3), 127);
    }

    private static void promise08Text() {
        WovenHistory x = woven(SIX);
        dueText(x, 0, "ABCDEFG");
        dueText(x, 1, "ABDEFGP");
        dueText(x, 2, "ABDFGPQR");
        dueText(x, 3, "ABCDEXYFG");
        dueText(x, 4, "ABCDXYFQ");
        dueText(x, 5, "ABCDFQ");
        due("8: ORIGIN", x.text(4, 7, 1), 2);
        due("8: LINE", x.text(4, 7, 2), 10);
        due("8: not so many", x.text(4, 8, 2), NONE);
        due("8: not so many", x.text(4, Integer.MAX_VALUE, 1), NONE);
        due("8: text(6, ..)", x.text(6, 0, 0), UNKNOWN);
        due("8: text(-2, ..)", x.text(-2, -1, 9), UNKNOWN);
        due("8: i below 0", x.text(5, -1, 0), OUTSIDE);
        due("8: what", x.text(5, 0, 3), OUTSIDE);
        due("8: what", x.text(5, 0, -1), OUTSIDE);
        due("8: OUTSIDE ahead of NOT", x.text(NONE, 0, 3), OUTSIDE);
        due("8: OUTSIDE ahead of NOT", x.text(NONE, -1, 0), OUTSIDE);
        due("8: nothing is OPEN", x.text(NONE, 0, 0), NOT);
        x.open(1);
        x.put(2, 'K');
        dueText(x, NONE, "ABKDEFGP");
        due("8: ORIGIN in the OPEN one", x.text(NONE, 2, 1), 6);
        due("8: LINE in the OPEN one", x.text(NONE, 2, 2), 2);
        due("8: not so many", x.text(NONE, 8, 0), NONE);
        due("8: the OPEN one by its number", x.text(6, 0, 0), UNKNOWN);
        dueText(x, 1, "ABDEFGP");
        x = woven("v99;v0;i0(d1(" + "A".repeat(119) + ")B)");
        due("8: LINE", x.text(1, 0, 2), 119);
        due("8: not so many", x.text(1, 1, 2), NONE);
    }

    private static void promise09Open() {
        WovenHistory x = new WovenHistory();
        due("9: open(0)", x.open(0), UNKNOWN);
        due("9: open(-2)", x.open(-2), UNKNOWN);
        due("9: open(NONE)", x.open(NONE), 0);
        due("9: one is OPEN", x.open(NONE), NOT);
        due("9: UNKNOWN ahead of NOT", x.open(0), UNKNOWN);
        x.put(0, 'A');
        x.close();
        due("9: open(0)", x.open(0), 1);
        due("9: its LINES", x.told(4), 1);
        x.leave();
        due("9: the number again", x.open(NONE), 1);
        due("9: none of its LINES", x.told(4), 0);
        x.close();
        for (int v = 2; v < 24; v++) {
            due("9: open", x.open(v - 1), v);
            due("9: close", x.close(), v);
        }
        due("9: a 25th", x.open(0), FULL);
        due("9: a 25th", x.open(NONE), FULL);
        due("9: UNKNOWN ahead of FULL", x.open(24), UNKNOWN);
    }

    private static void promise10Include() {
        WovenHistory x = woven(SIX);
        due("10: nothing is OPEN", x.include(0), NOT);
        due("10: include(6)", x.include(6), UNKNOWN);
        x.open(1);
        due("10: include(-1)", x.include(-1), UNKNOWN);
        due("10: the OPEN one", x.include(6), UNKNOWN);
        due("10: among its CHANGES", x.include(0), NOT);
        due("10: include(3)", x.include(3), 9);
        due("10: again", x.include(3), NOT);
        dueText(x, NONE, "ABDEXYFGP");
        due("10: a taker", x.include(5), 8);
        dueText(x, NONE, "ABDEXYFP");
        due("10: exclude(0)", x.exclude(0), 3);
        due("10: what EXCLUDED it does no more", x.include(0), 8);
        x.close();
        due("10: CHANGES", x.version(6, 1), 107);
        due("10: INCLUDES", x.version(6, 2), 41);
        due("10: EXCLUDES", x.version(6, 3), 0);
    }

    private static void promise11Exclude() {
        WovenHistory x = woven(SIX);
        due("11: nothing is OPEN", x.exclude(0), NOT);
        due("11: exclude(6)", x.exclude(6), UNKNOWN);
        x.open(4);
        due("11: exclude(-1)", x.exclude(-1), UNKNOWN);
        due("11: the OPEN one", x.exclude(6), UNKNOWN);
        due("11: not among its CHANGES", x.exclude(1), NOT);
        due("11: exclude(2)", x.exclude(2), 8);
        dueText(x, NONE, "ABCDEXYF");
        due("11: again", x.exclude(2), NOT);
        due("11: include(1)", x.include(1), 8);
        due("11: what INCLUDED it does no more", x.exclude(1), 8);
        due("11: a taker", x.exclude(4), 9);
        dueText(x, NONE, "ABCDEXYFG");
        x.close();
        due("11: CHANGES", x.version(6, 1), 73);
        due("11: INCLUDES", x.version(6, 2), 0);
        due("11: EXCLUDES", x.version(6, 3), 22);
    }

    private static void promise12Put() {
        WovenHistory x = woven("v99;v0;i0(d1(A)Bd1(C)D)");
        due("12: nothing is OPEN", x.put(0, 'A'), NOT);
        due("12: OUTSIDE ahead of NOT", x.put(0, 64), OUTSIDE);
        x.open(1);
        due("12: letter 64", x.put(0, 64), OUTSIDE);
        due("12: letter 91", x.put(0, 91), OUTSIDE);
        due("12: i below 0", x.put(-1, 65), OUTSIDE);
        due("12: not so many LINES", x.put(3, 65), NOT);
        due("12: OUTSIDE ahead of NOT", x.put(3, 0), OUTSIDE);
        due("12: at its end", x.put(2, 'Z'), 4);
        due("12: behind B", x.put(1, 'Y'), 2);
        due("12: ahead of all", x.put(0, 'X'), 0);
        dueText(x, NONE, "XBYDZ");
        due("12: brought by the new one", x.line(0, 1), 2);
        due("12: taken by none", x.line(3, 2), 0);
        x.close();
        dueText(x, 0, "ABCD");
        dueText(x, 1, "BD");
        dueText(x, 2, "XBYDZ");

        x = new WovenHistory();
        x.open(NONE);
        for (int k = 0; k < 120; k++) {
            due("12: put", x.put(k, 65 + k % 26), k);
        }
        due("12: a 121st", x.put(0, 65), FULL);
        due("12: NOT ahead of FULL", x.put(121, 65), NOT);
        due("12: LINES", x.told(1), 120);
        x.take(5);
        due("12: room again", x.put(119, 90), 119);
    }

    private static void promise13Take() {
        WovenHistory x = woven("v99;v0;i0(d1(A)Bd1(C)D)");
        due("13: nothing is OPEN", x.take(0), NOT);
        due("13: OUTSIDE ahead of NOT", x.take(-1), OUTSIDE);
        x.open(1);
        due("13: i below 0", x.take(-1), OUTSIDE);
        due("13: no such LINE", x.take(2), NOT);
        x.put(1, 'Y');
        due("13: one of its own", x.take(1), 'Y');
        due("13: goes from THE WEAVE", x.told(1), 4);
        due("13: an older one", x.take(1), 'D');
        due("13: stays in THE WEAVE", x.told(1), 4);
        due("13: taken by the new one", x.line(3, 2), 4);
        due("13: an older one", x.take(0), 'B');
        due("13: none left", x.take(0), NOT);
        x.close();
        dueText(x, 1, "BD");
        dueText(x, 2, "");
        due("13: TOOK", x.version(2, 6), 2);
        x.open(0);
        due("13: one taken before", x.take(1), 'B');
        due("13: two took it", x.line(1, 2), 12);
        due("13: NEST", x.told(6), 3);
    }

    private static void promise14Close() {
        WovenHistory x = new WovenHistory();
        due("14: nothing is OPEN", x.close(), NOT);
        x.open(NONE);
        x.put(0, 'A');
        due("14: close()", x.close(), 0);
        due("14: again", x.close(), NOT);
        due("14: there", x.told(0), 1);
        due("14: nothing is OPEN", x.told(3), 0);
        x.open(0);
        due("14: close()", x.close(), 1);
        due("14: goes on from", x.version(1, 0), 0);
        due("14: CHANGES", x.version(1, 1), 3);
        dueText(x, 1, "A");
    }

    private static void promise15Leave() {
        WovenHistory x = woven(SIX);
        due("15: nothing is OPEN", x.leave(), NOT);
        x.open(3);
        x.put(0, 'K');
        x.put(3, 'L');
        x.take(1);
        x.take(1);
        x.include(1);
        x.exclude(3);
        int had = x.told(4);
        due("15: leave()", x.leave(), had);
        due("15: LINES", x.told(1), 12);
        due("15: nothing is OPEN", x.told(3), 0);
        due("15: VERSIONS", x.told(0), 6);
        dueText(x, 3, "ABCDEXYFG");
        due("15: letter", x.line(0, 0), 'A');
        due("15: takers", x.line(0, 2), 0);
        due("15: again", x.leave(), NOT);
        due("15: the number is free", x.open(3), 6);
        due("15: includes nothing", x.told(4), 9);
    }

    private static void promise16Drift() {
        WovenHistory x = new WovenHistory();
        due("16: no VERSIONS", x.drift(1, 1), NOT);
        due("16: OUTSIDE ahead of NOT", x.drift(0, 1), OUTSIDE);
        x = woven("v99;i0(ABC)");
        due("16: n = 0", x.drift(0, 1), OUTSIDE);
        due("16: n = 25", x.drift(25, 1), OUTSIDE);
        due("16: SEED 0", x.drift(1, 0), OUTSIDE);
        due("16: SEED 1000000", x.drift(1, 1000000), OUTSIDE);
        x.open(0);
        due("16: one is OPEN", x.drift(1, 1), NOT);
        due("16: OUTSIDE ahead of NOT", x.drift(1, -5), OUTSIDE);
        x.leave();
        // SEED 1: 16807, 282475249, 1622650073, 984943658, 1144108930, 470211272, 101027544,
        // 1457850878, 1458777923:
        // on 0; 282475249 by 3: 1, letter 65 + 1622650073 by 26 = F, place 984943658 by 4 = 2;
        // 1144108930 by 3: 1, letter 65 + 470211272 by 26 = Y, place 101027544 by 5 = 4;
        // 1457850878 by 3: 2, place 1458777923 by 5 = 3.
        due("16: one VERSION", x.drift(1, 1), 2);
        dueText(x, 1, "ABFY");
        due("16: taken", x.line(3, 2), 2);
        due("16: nothing is OPEN", x.told(3), 0);
        due("16: goes on from", x.version(1, 0), 0);
        due("16: all that there is room for", x.drift(24, 999999), 24);
        due("16: none more", x.drift(1, 1), 24);
    }

    private static void promise16DriftWithoutRoom() {
        WovenHistory x = woven("v99;i0(" + "A".repeat(120) + ")");
        // SEED 1: the first lot of the first VERSION is a LINE, for which there is no room.
        due("16: ends ahead of a LINE", x.drift(24, 1), 2);
        due("16: CLOSED", x.told(3), 0);
        due("16: LINES", x.told(1), 120);
        due("16: all of its base", x.version(1, 4), 120);
        x = woven("v99;i0(" + "A".repeat(119) + ")");
        due("16: ends ahead of a second LINE", x.drift(24, 1), 2);
        due("16: LINES", x.told(1), 120);
        due("16: BROUGHT", x.version(1, 5), 1);
        // An empty TEXT: a taking wants no further X then. SEED 2: take, put U, put O at 1.
        x = woven("v99;");
        x.keep(0);
        x.drift(1, 2);
        dueText(x, 1, "UO");
        due("16: INCLUDES nothing", x.version(1, 2), 0);
        due("16: EXCLUDES nothing", x.version(1, 3), 0);
        // SEED 9: take, put Y, take it out again.
        x.goBack(0);
        x.drift(1, 9);
        dueText(x, 1, "");
        due("16: it goes from THE WEAVE", x.told(1), 0);
        x.goBack(0);
        for (int seed = 1; seed <= 40; seed++) {
            due("16: keep", x.keep(0), 1);
            due("16: drift", x.drift(3, seed), 4);
            CHECK.holds("no more than nine LINES", x.told(1) <= 9);
            x.goBack(0);
        }
    }

    private static void promise17Share() {
        WovenHistory x = woven(SIX);
        due("17: share(4, 0)", x.share(4, 0), 5);
        due("17: share(4, 3)", x.share(4, 3), 2);
        due("17: share(4, 2)", x.share(4, 2), 1);
        due("17: the same", x.share(2, 2), 2);
        due("17: the same", x.share(5, 5), 0);
        due("17: a younger one", x.share(0, 2), 0);
        due("17: share(6, 0)", x.share(6, 0), UNKNOWN);
        due("17: share(0, 6)", x.share(0, 6), UNKNOWN);
        due("17: share(-1, 0)", x.share(-1, 0), UNKNOWN);
        due("17: share(0, -1)", x.share(0, -1), UNKNOWN);
    }

    private static void promise18Alike() {
        WovenHistory x = woven(SIX);
        due("18: both", x.alike(1, 4, 0), 4);
        due("18: in 1 alone", x.alike(1, 4, 1), 3);
        due("18: in 4 alone", x.alike(1, 4, 2), 4);
        due("18: PART", x.alike(1, 4, 3), 2);
        due("18: in 4 alone", x.alike(4, 1, 1), 4);
        due("18: PART", x.alike(4, 5, 3), 4);
        due("18: what", x.alike(1, 4, 4), OUTSIDE);
        due("18: what", x.alike(1, 4, -1), OUTSIDE);
        due("18: one twice", x.alike(1, 1, 0), UNKNOWN);
        due("18: alike(6, 0, 0)", x.alike(6, 0, 0), UNKNOWN);
        due("18: UNKNOWN ahead of OUTSIDE", x.alike(0, -1, 9), UNKNOWN);
        x = woven("v99;v0;v1;v99;i0(AA)i2(B)i3(AA)");
        due("18: the same LINES", x.alike(0, 1, 3), NONE);
        due("18: one ends sooner", x.alike(1, 2, 3), 2);
        due("18: one ends sooner", x.alike(2, 1, 3), 2);
        due("18: LINES, not letters", x.alike(0, 3, 3), 0);
        due("18: LINES, not letters", x.alike(0, 3, 0), 0);
        x = woven("v99;v99;");
        due("18: no LINES", x.alike(0, 1, 3), NONE);
    }

    private static void promise19Without() {
        WovenHistory x = woven(SIX);
        due("19: without(4, 3)", x.without(4, 3), 6);
        due("19: without(4, 2)", x.without(4, 2), 8);
        due("19: without(4, 0)", x.without(4, 0), 3);
        due("19: not among its CHANGES", x.without(4, 1), 8);
        due("19: a younger one", x.without(1, 5), 7);
        due("19: one twice", x.without(4, 4), UNKNOWN);
        due("19: without(6, 0)", x.without(6, 0), UNKNOWN);
        due("19: without(0, -1)", x.without(0, -1), UNKNOWN);
        due("19: nothing is changed", x.version(4, 4), 8);
    }

    private static void promise20Near() {
        WovenHistory x = woven("v99;v0;v1;v0;v3+2;v4-3;v99;");
        due("20: near(2, 5)", x.near(2, 5), 0);
        due("20: near(5, 2)", x.near(5, 2), 0);
        due("20: near(1, 2)", x.near(1, 2), 1);
        due("20: an INCLUDED one is not gone on from", x.near(2, 4), 0);
        due("20: an EXCLUDED one is", x.near(3, 5), 3);
        due("20: near(0, 6)", x.near(0, 6), NONE);
        WovenHistory chain = woven("v99;v0;v1;v2;v3;v4;v5;v6;v7;v8;v9;v10;v11;v12;v13;v14;v15;v16;"
                + "v17;v18;v19;v20;v21;v22;");
        due("20: near(22, 23)", chain.near(22, 23), 22);
        due("20: near(23, 0)", chain.near(23, 0), 0);
        due("20: one twice", x.near(3, 3), UNKNOWN);
        due("20: near(7, 0)", x.near(7, 0), UNKNOWN);
        due("20: near(0, -1)", x.near(0, -1), UNKNOWN);
    }

    private static void promise21Block() {
        WovenHistory x = woven(SIX);
        int[][] want = {
            {0, 2}, {2, 1}, {3, 1}, {4, 1}, {5, 2}, {7, 1}, {8, 1}, {9, 1}, {10, 1}, {11, 1}};
        for (int b = 0; b < want.length; b++) {
            due("21: first of " + b, x.block(b, 0), want[b][0]);
            due("21: length of " + b, x.block(b, 1), want[b][1]);
        }
        due("21: not so many", x.block(10, 0), NONE);
        due("21: not so many", x.block(10, 1), NONE);
        due("21: not so many", x.block(Integer.MAX_VALUE, 1), NONE);
        due("21: b below 0", x.block(-1, 0), OUTSIDE);
        due("21: what", x.block(0, 2), OUTSIDE);
        due("21: OUTSIDE ahead of NONE", x.block(99, -1), OUTSIDE);
        x = woven("v99;i0(AB)i0(CD)");
        due("21: one run", x.block(0, 1), 4);
        due("21: none behind it", x.block(1, 0), NONE);
    }

    private static void promise22Sheet() {
        WovenHistory x = new WovenHistory();
        due("22: sheet(-1, 0)", x.sheet(-1, 0), UNKNOWN);
        due("22: sheet(4, 0)", x.sheet(4, 0), UNKNOWN);
        due("22: UNKNOWN ahead of OUTSIDE", x.sheet(4, 41), UNKNOWN);
        due("22: n = -1", x.sheet(0, -1), OUTSIDE);
        due("22: n = 41", x.sheet(0, 41), OUTSIDE);
        due("22: nothing came of it", x.told(9), 0);
        due("22: n = 40", x.sheet(3, 40), 40);
        due("22: n = 0", x.sheet(0, 0), 0);
        due("22: there", x.told(9), 2);
        x.set(3, 0, 4);
        x.set(3, 39, 5);
        due("22: anew", x.sheet(3, 40), 40);
        due("22: numbers 0", x.get(3, 0), 0);
        due("22: numbers 0", x.get(3, 39), 0);
        due("22: smaller", x.sheet(3, 2), 2);
        due("22: its end", x.get(3, 2), PLACE);
    }

    private static void promise23Set() {
        WovenHistory x = new WovenHistory();
        x.sheet(1, 3);
        due("23: UNKNOWN", x.set(4, 0, 1), UNKNOWN);
        due("23: UNKNOWN", x.set(-1, 0, 1), UNKNOWN);
        due("23: NULL", x.set(0, 0, 1), NULL);
        due("23: NULL ahead of PLACE", x.set(0, -1, 1), NULL);
        due("23: PLACE", x.set(1, 3, 1), PLACE);
        due("23: PLACE", x.set(1, -1, 1), PLACE);
        due("23: PLACE", x.set(1, Integer.MAX_VALUE, 1), PLACE);
        due("23: PLACE", x.set(1, Integer.MIN_VALUE, 1), PLACE);
        due("23: what it was", x.set(1, 2, Long.MIN_VALUE), 0);
        due("23: what it was", x.set(1, 2, 7), Long.MIN_VALUE);
        due("23: number", x.get(1, 2), 7);
        due("23: its neighbour", x.get(1, 1), 0);
    }

    private static void promise24Get() {
        WovenHistory x = new WovenHistory();
        due("24: UNKNOWN", x.get(4, 0), UNKNOWN);
        due("24: UNKNOWN", x.get(-1, 0), UNKNOWN);
        due("24: NULL", x.get(2, 50), NULL);
        x.sheet(2, 1);
        due("24: number", x.get(2, 0), 0);
        due("24: PLACE", x.get(2, 1), PLACE);
        due("24: PLACE", x.get(2, -1), PLACE);
        x.set(2, 0, Long.MAX_VALUE);
        due("24: number", x.get(2, 0), Long.MAX_VALUE);
        x.sheet(2, 0);
        due("24: an empty row", x.get(2, 0), PLACE);
    }

    private static void promise25Drop() {
        WovenHistory x = new WovenHistory();
        due("25: UNKNOWN", x.drop(4), UNKNOWN);
        due("25: UNKNOWN", x.drop(-1), UNKNOWN);
        due("25: NULL", x.drop(1), NULL);
        x.sheet(1, 17);
        x.sheet(2, 0);
        due("25: drop(1)", x.drop(1), 17);
        due("25: again", x.drop(1), NULL);
        due("25: missing", x.get(1, 0), NULL);
        due("25: an empty row", x.drop(2), 0);
        due("25: none there", x.told(9), 0);
    }

    private static void promise26Film() {
        WovenHistory x = woven(SIX);
        x.sheet(0, 12);
        due("26: UNKNOWN", x.film(6, 0, 0), UNKNOWN);
        due("26: UNKNOWN", x.film(NONE, 0, 0), UNKNOWN);
        due("26: UNKNOWN", x.film(0, 4, 0), UNKNOWN);
        due("26: NULL", x.film(0, 1, 99), NULL);
        due("26: PLACE", x.film(4, 0, 5), PLACE);
        due("26: PLACE", x.film(4, 0, -1), PLACE);
        due("26: PLACE", x.film(4, 0, Integer.MAX_VALUE), PLACE);
        due("26: nothing came", x.get(0, 11), 0);
        due("26: just room", x.film(4, 0, 4), 8);
        due("26: ahead of it", x.get(0, 3), 0);
        due("26: first", x.get(0, 4), 'A' + 65536L * 63);
        due("26: fifth", x.get(0, 8), 'X' + 256 * 3 + 65536L * 24);
        due("26: last", x.get(0, 11), 'Q' + 256 * 2 + 65536L * 52);
        due("26: another over it", x.film(5, 0, 0), 6);
        due("26: its last", x.get(0, 5), 'Q' + 256 * 2 + 65536L * 52);
        due("26: behind it", x.get(0, 6), 'C' + 65536L * 57);
        x = woven("v99;");
        x.sheet(0, 2);
        due("26: no LINES", x.film(0, 0, 2), 0);
        due("26: no such place", x.film(0, 0, 3), PLACE);
        due("26: no such place", x.film(0, 0, -1), PLACE);
        x.sheet(0, 0);
        due("26: no LINES, no numbers", x.film(0, 0, 0), 0);
    }

    private static void promise27IsFilm() {
        WovenHistory x = woven(SIX);
        x.sheet(0, 12);
        x.film(4, 0, 1);
        due("27: so", x.isFilm(4, 0, 1, 8), 1);
        due("27: too few", x.isFilm(4, 0, 1, 7), 0);
        due("27: too many", x.isFilm(4, 0, 1, 9), 0);
        due("27: elsewhere", x.isFilm(4, 0, 0, 8), 0);
        due("27: another's", x.isFilm(2, 0, 1, 8), 0);
        x.set(0, 1, -256 + 'A');
        due("27: by the lowest 8 bits", x.isFilm(4, 0, 1, 8), 1);
        x.set(0, 8, 'Q' + 1);
        due("27: the last is unlike", x.isFilm(4, 0, 1, 8), 0);
        due("27: UNKNOWN", x.isFilm(6, 0, 0, 0), UNKNOWN);
        due("27: UNKNOWN", x.isFilm(-1, 0, 0, 0), UNKNOWN);
        due("27: UNKNOWN ahead of OUTSIDE", x.isFilm(0, 4, 0, -1), UNKNOWN);
        due("27: OUTSIDE", x.isFilm(0, 0, 0, -1), OUTSIDE);
        due("27: OUTSIDE ahead of NULL", x.isFilm(0, 1, 0, -1), OUTSIDE);
        due("27: NULL", x.isFilm(0, 1, 0, 99), NULL);
        due("27: PLACE", x.isFilm(0, 0, 0, 13), PLACE);
        due("27: PLACE", x.isFilm(0, 0, 6, 7), PLACE);
        due("27: PLACE", x.isFilm(0, 0, -1, 7), PLACE);
        due("27: PLACE", x.isFilm(0, 0, 12, Integer.MAX_VALUE), PLACE);
        due("27: PLACE", x.isFilm(0, 0, Integer.MAX_VALUE, 1), PLACE);
        due("27: none of many", x.isFilm(0, 0, 12, 0), 0);
        x = woven("v99;v0;i0(d1(" + "A".repeat(119) + ")B)");
        x.sheet(0, 40);
        due("27: the last of 120", x.film(1, 0, 39), 1);
        due("27: the last of 120", x.isFilm(1, 0, 39, 1), 1);
        due("27: its number", x.get(0, 39), 'B' + 65536L * 3);
        x = woven("v99;");
        x.sheet(0, 2);
        due("27: no LINES", x.isFilm(0, 0, 2, 0), 1);
        due("27: no LINES, a number", x.isFilm(0, 0, 0, 1), 0);
    }

    private static void promise28Keep() {
        WovenHistory x = woven(SIX);
        due("28: keep(-1)", x.keep(-1), UNKNOWN);
        due("28: keep(2)", x.keep(2), UNKNOWN);
        due("28: keep(0)", x.keep(0), 6);
        x.open(0);
        due("28: one is OPEN", x.keep(0), NOT);
        due("28: UNKNOWN ahead of NOT", x.keep(-1), UNKNOWN);
        x.put(0, 'Z');
        x.close();
        due("28: keep(1)", x.keep(1), 7);
        due("28: the other stays", x.goBack(0), 6);
        due("28: keep(1) anew", x.keep(1), 6);
        due("28: goBack(1)", x.goBack(1), 6);
    }

    private static void promise29GoBack() {
        WovenHistory x = woven(SIX);
        due("29: goBack(-1)", x.goBack(-1), UNKNOWN);
        due("29: goBack(2)", x.goBack(2), UNKNOWN);
        due("29: nothing was kept", x.goBack(0), NOT);
        x.keep(1);
        due("29: nothing was kept", x.goBack(0), NOT);
        x.sheet(0, 1);
        x.feed(32);
        x.open(4);
        x.exclude(0);
        x.take(0);
        x.put(0, 'Z');
        x.close();
        x.open(2);
        x.put(0, 'Y');
        x.set(0, 0, 9);
        due("29: goBack(1)", x.goBack(1), 6);
        due("29: nothing is OPEN", x.told(3), 0);
        due("29: LINES", x.told(1), 12);
        due("29: takers", x.line(0, 2), 0);
        dueText(x, 4, "ABCDXYFQ");
        due("29: sheets are as they are", x.get(0, 0), 9);
        due("29: letters fed are as they are", x.told(8), 1);
        due("29: again", x.goBack(1), 6);
        due("29: the next number", x.open(0), 6);
    }
}
