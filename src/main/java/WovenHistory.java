/**
 * One file for all versions of a text: every line stands in it once, in one order for all,
 * with the version that brought it in and those that took it out.
 *
 * Every row is made in a constructor and used again, so that no call makes an object.
 */
public final class WovenHistory {
    public static final int NONE = -1, UNKNOWN = -1000000001, OUTSIDE = -1000000002, NOT = -1000000003, FULL = -1000000004, NULL = -1000000011, PLACE = -1000000012;

    private static final int MOST_VERSIONS = 24;
    private static final int MOST_LINES = 120;
    private static final int MOST_LETTERS = 240;
    private static final int MOST_SHEETS = 4;
    private static final int MOST_NUMBERS = 40;
    private static final int MOST_SEED = 999999;
    private static final int LOTS_FOR_EACH = 3;
    // The document tells no bound for IMAGES; its tests use 0 and 1.
    private static final int MOST_IMAGES = 2;
    private static final int FIRST_SIGN = 65;
    private static final int LAST_SIGN = 90;

    private final Weave now;
    private final Weave aheadOfOpen;
    private final Weave[] images;
    private final boolean[] kept;
    private final Reader reader;
    private final Sheets sheets;
    private final Lots lots;
    private boolean opened;
    private int latestFaultAt;

    public WovenHistory() {
        now = new Weave();
        aheadOfOpen = new Weave();
        images = new Weave[MOST_IMAGES];
        for (int i = 0; i < MOST_IMAGES; i++) {
            images[i] = new Weave();
        }
        kept = new boolean[MOST_IMAGES];
        reader = new Reader();
        sheets = new Sheets();
        lots = new Lots();
        opened = false;
        latestFaultAt = NONE;
    }

    // ---- the file

    public int feed(int letter) {
        if (letter < 0 || letter > 255) {
            return OUTSIDE;
        }
        return reader.addLetter(letter) ? reader.length : FULL;
    }

    public int weave() {
        int number = reader.readAll();
        latestFaultAt = reader.faultAt;
        if (number != 0) {
            return -10 - number;
        }
        now.become(reader.woven);
        opened = false;
        forgetImages();
        return now.versions;
    }

    public int fault() {
        return latestFaultAt;
    }

    public int told(int what) {
        switch (what) {
            case 0: return now.versions;
            case 1: return now.lines;
            case 2: return opened ? now.parentOf(now.versions) : NONE;
            case 3: return opened ? 1 : 0;
            case 4: return opened ? openLines() : 0;
            case 5: return now.countBlocks();
            case 6: return now.greatestNesting();
            case 7: return now.countGone();
            case 8: return reader.length;
            case 9: return sheets.countThere();
            default: return OUTSIDE;
        }
    }

    public int version(int v, int what) {
        if (!now.hasVersion(v)) {
            return UNKNOWN;
        }
        switch (what) {
            case 0: return now.from[v];
            case 1: return now.changes[v];
            case 2: return now.included[v];
            case 3: return now.excluded[v];
            case 4: return now.countStanding(now.changes[v]);
            case 5: return now.countBrought(v);
            case 6: return now.countTaken(v);
            default: return OUTSIDE;
        }
    }

    public int line(int i, int what) {
        if (!now.hasLine(i)) {
            return UNKNOWN;
        }
        switch (what) {
            case 0: return now.sign[i];
            case 1: return now.brought[i];
            case 2: return now.took[i];
            case 3: return now.lifeOf(i);
            default: return OUTSIDE;
        }
    }

    public int text(int v, int i, int what) {
        if (v != NONE && !now.hasVersion(v)) {
            return UNKNOWN;
        }
        if (i < 0 || what < 0 || what > 2) {
            return OUTSIDE;
        }
        if (v == NONE && !opened) {
            return NOT;
        }
        int found = now.findStanding(now.changesOf(v == NONE ? now.versions : v), i);
        if (!now.hasLine(found)) {
            return NONE;
        }
        switch (what) {
            case 0: return now.sign[found];
            case 1: return now.brought[found];
            default: return found;
        }
    }

    // ---- what is done

    public int open(int v) {
        if (v != NONE && !now.hasVersion(v)) {
            return UNKNOWN;
        }
        if (opened) {
            return NOT;
        }
        if (now.versions >= MOST_VERSIONS) {
            return FULL;
        }
        aheadOfOpen.become(now);
        now.beginVersion(v, 0, 0);
        opened = true;
        return now.versions;
    }

    public int include(int v) {
        if (!now.hasVersion(v)) {
            return UNKNOWN;
        }
        if (!opened || Weave.holds(openChanges(), v)) {
            return NOT;
        }
        now.includeInNext(v);
        return openLines();
    }

    public int exclude(int v) {
        if (!now.hasVersion(v)) {
            return UNKNOWN;
        }
        if (!opened || !Weave.holds(openChanges(), v)) {
            return NOT;
        }
        now.excludeFromNext(v);
        return openLines();
    }

    public int put(int i, int letter) {
        if (i < 0 || !isSign(letter)) {
            return OUTSIDE;
        }
        if (!opened || i > openLines()) {
            return NOT;
        }
        if (now.lines >= MOST_LINES) {
            return FULL;
        }
        return now.putByNext(i, letter);
    }

    public int take(int i) {
        if (i < 0) {
            return OUTSIDE;
        }
        if (!opened || i >= openLines()) {
            return NOT;
        }
        return now.takeByNext(i);
    }

    public int close() {
        if (!opened) {
            return NOT;
        }
        now.finishVersion();
        opened = false;
        return now.versions - 1;
    }

    public int leave() {
        if (!opened) {
            return NOT;
        }
        int had = openLines();
        now.become(aheadOfOpen);
        opened = false;
        return had;
    }

    public int drift(int n, int seed) {
        if (n < 1 || n > MOST_VERSIONS || seed < 1 || seed > MOST_SEED) {
            return OUTSIDE;
        }
        if (opened || now.versions == 0) {
            return NOT;
        }
        lots.start(seed);
        boolean room = true;
        for (int k = 0; k < n && room; k++) {
            room = driftOneVersion();
        }
        return now.versions;
    }

    // ---- asked

    public int share(int v, int u) {
        if (!now.hasVersion(v) || !now.hasVersion(u)) {
            return UNKNOWN;
        }
        return now.countShare(now.changes[v], u);
    }

    public int alike(int u, int v, int what) {
        if (!areTwoVersions(u, v)) {
            return UNKNOWN;
        }
        int ofU = now.changes[u];
        int ofV = now.changes[v];
        int both = now.countInBoth(ofU, ofV);
        switch (what) {
            case 0: return both;
            case 1: return now.countStanding(ofU) - both;
            case 2: return now.countStanding(ofV) - both;
            case 3: return now.findPart(ofU, ofV);
            default: return OUTSIDE;
        }
    }

    public int without(int v, int u) {
        if (!areTwoVersions(v, u)) {
            return UNKNOWN;
        }
        return now.countStanding(now.changes[v] & ~Weave.only(u));
    }

    public int near(int u, int v) {
        if (!areTwoVersions(u, v)) {
            return UNKNOWN;
        }
        int common = now.lineageOf(u) & now.lineageOf(v);
        for (int k = MOST_VERSIONS - 1; k >= 0; k--) {
            if (Weave.holds(common, k)) {
                return k;
            }
        }
        return NONE;
    }

    public int block(int b, int what) {
        if (b < 0 || what < 0 || what > 1) {
            return OUTSIDE;
        }
        int first = now.findBlock(b);
        if (first == NONE || what == 0) {
            return first;
        }
        return now.blockLength(first);
    }

    // ---- sheets

    public int sheet(int s, int n) {
        if (!sheets.hasNumber(s)) {
            return UNKNOWN;
        }
        if (n < 0 || n > MOST_NUMBERS) {
            return OUTSIDE;
        }
        sheets.lay(s, n);
        return n;
    }

    public long set(int s, int i, long v) {
        int finding = sheets.findWrong(s, i, 1);
        if (finding != 0) {
            return finding;
        }
        long was = sheets.numbers[s][i];
        sheets.numbers[s][i] = v;
        return was;
    }

    public long get(int s, int i) {
        int finding = sheets.findWrong(s, i, 1);
        return finding != 0 ? finding : sheets.numbers[s][i];
    }

    public int drop(int s) {
        int finding = sheets.findWrong(s, 0, 0);
        if (finding != 0) {
            return finding;
        }
        int had = sheets.sizes[s];
        sheets.sizes[s] = NONE;
        return had;
    }

    public int film(int v, int s, int i) {
        if (!now.hasVersion(v)) {
            return UNKNOWN;
        }
        int count = now.countStanding(now.changes[v]);
        int finding = sheets.findWrong(s, i, count);
        if (finding != 0) {
            return finding;
        }
        int place = i;
        for (int k = 0; k < now.lines; k++) {
            if (now.stands(k, now.changes[v])) {
                sheets.numbers[s][place] = now.pictureOf(k);
                place++;
            }
        }
        return count;
    }

    public int isFilm(int v, int s, int i, int n) {
        if (!now.hasVersion(v) || !sheets.hasNumber(s)) {
            return UNKNOWN;
        }
        if (n < 0) {
            return OUTSIDE;
        }
        int finding = sheets.findWrong(s, i, n);
        if (finding != 0) {
            return finding;
        }
        if (n != now.countStanding(now.changes[v])) {
            return 0;
        }
        int place = i;
        for (int k = 0; k < now.lines; k++) {
            if (now.stands(k, now.changes[v])) {
                if ((sheets.numbers[s][place] & 255L) != now.sign[k]) {
                    return 0;
                }
                place++;
            }
        }
        return 1;
    }

    // ---- images

    public int keep(int i) {
        if (i < 0 || i >= MOST_IMAGES) {
            return UNKNOWN;
        }
        if (opened) {
            return NOT;
        }
        images[i].become(now);
        kept[i] = true;
        return now.versions;
    }

    public int goBack(int i) {
        if (i < 0 || i >= MOST_IMAGES) {
            return UNKNOWN;
        }
        if (!kept[i]) {
            return NOT;
        }
        now.become(images[i]);
        opened = false;
        return now.versions;
    }

    // ---- what the calls above share

    private void forgetImages() {
        for (int i = 0; i < MOST_IMAGES; i++) {
            kept[i] = false;
        }
    }

    private int openChanges() {
        return now.changesOf(now.versions);
    }

    private int openLines() {
        return now.countStanding(openChanges());
    }

    private boolean areTwoVersions(int u, int v) {
        return u != v && now.hasVersion(u) && now.hasVersion(v);
    }

    private static boolean isSign(int letter) {
        return letter >= FIRST_SIGN && letter <= LAST_SIGN;
    }

    /** Answers whether there was room for all that this version wanted. */
    private boolean driftOneVersion() {
        if (now.versions >= MOST_VERSIONS) {
            return false;
        }
        now.beginVersion(lots.below(now.versions), 0, 0);
        boolean room = true;
        for (int k = 0; k < LOTS_FOR_EACH && room; k++) {
            room = driftOneLine();
        }
        now.finishVersion();
        return room;
    }

    private boolean driftOneLine() {
        boolean takes = lots.below(3) == 2;
        int count = openLines();
        if (takes) {
            if (count > 0) {
                now.takeByNext(lots.below(count));
            }
            return true;
        }
        if (now.lines >= MOST_LINES) {
            return false;
        }
        int letter = FIRST_SIGN + lots.below(LAST_SIGN - FIRST_SIGN + 1);
        now.putByNext(lots.below(count + 1), letter);
        return true;
    }

    /**
     * VERSIONS and THE WEAVE. The version that is not closed yet stands in the slot behind the
     * last one, so that it needs no room of its own: at 24 VERSIONS none can be OPEN.
     */
    private static final class Weave {
        private int versions;
        private final int[] from;
        private final int[] included;
        private final int[] excluded;
        private final int[] changes;
        private int lines;
        private final int[] sign;
        private final int[] brought;
        private final int[] took;

        Weave() {
            versions = 0;
            from = new int[MOST_VERSIONS];
            included = new int[MOST_VERSIONS];
            excluded = new int[MOST_VERSIONS];
            changes = new int[MOST_VERSIONS];
            lines = 0;
            sign = new int[MOST_LINES];
            brought = new int[MOST_LINES];
            took = new int[MOST_LINES];
        }

        static int only(int v) {
            return v >= 0 && v < MOST_VERSIONS ? 1 << v : 0;
        }

        static boolean holds(int changeSet, int v) {
            return (changeSet & only(v)) != 0;
        }

        void makeEmpty() {
            versions = 0;
            lines = 0;
        }

        void become(Weave other) {
            versions = other.versions;
            System.arraycopy(other.from, 0, from, 0, MOST_VERSIONS);
            System.arraycopy(other.included, 0, included, 0, MOST_VERSIONS);
            System.arraycopy(other.excluded, 0, excluded, 0, MOST_VERSIONS);
            System.arraycopy(other.changes, 0, changes, 0, MOST_VERSIONS);
            lines = other.lines;
            System.arraycopy(other.sign, 0, sign, 0, MOST_LINES);
            System.arraycopy(other.brought, 0, brought, 0, MOST_LINES);
            System.arraycopy(other.took, 0, took, 0, MOST_LINES);
        }

        boolean hasVersion(int v) {
            return v >= 0 && v < versions;
        }

        boolean hasLine(int i) {
            return i >= 0 && i < lines;
        }

        int parentOf(int v) {
            return v >= 0 && v < MOST_VERSIONS ? from[v] : NONE;
        }

        int changesOf(int v) {
            return v >= 0 && v < MOST_VERSIONS ? changes[v] : 0;
        }

        // -- the version behind the last one

        void beginVersion(int parent, int includes, int excludes) {
            if (versions < MOST_VERSIONS) {
                from[versions] = parent;
                included[versions] = includes;
                excluded[versions] = excludes;
                settleNext();
            }
        }

        void includeInNext(int v) {
            if (versions < MOST_VERSIONS) {
                excluded[versions] &= ~only(v);
                included[versions] |= only(v);
                settleNext();
            }
        }

        void excludeFromNext(int v) {
            if (versions < MOST_VERSIONS) {
                included[versions] &= ~only(v);
                excluded[versions] |= only(v);
                settleNext();
            }
        }

        void finishVersion() {
            if (versions < MOST_VERSIONS) {
                versions++;
            }
        }

        int putByNext(int place, int letter) {
            int behind = place == 0 ? NONE : findStanding(changesOf(versions), place - 1);
            insertLine(behind + 1, letter, versions, 0);
            return behind + 1;
        }

        int takeByNext(int place) {
            int found = findStanding(changesOf(versions), place);
            if (!hasLine(found)) {
                return NONE;
            }
            int letter = sign[found];
            if (brought[found] == versions) {
                removeLine(found);
            } else {
                took[found] |= only(versions);
            }
            return letter;
        }

        private void settleNext() {
            int gathered = changesOf(from[versions]) | included[versions];
            changes[versions] = (gathered & ~excluded[versions]) | only(versions);
        }

        // -- lines

        void insertLine(int at, int letter, int by, int takers) {
            if (at < 0 || at > lines || lines >= MOST_LINES) {
                return;
            }
            moveLines(at, at + 1);
            sign[at] = letter;
            brought[at] = by;
            took[at] = takers;
            lines++;
        }

        private void removeLine(int at) {
            moveLines(at + 1, at);
            lines--;
        }

        private void moveLines(int first, int target) {
            int count = lines - first;
            System.arraycopy(sign, first, sign, target, count);
            System.arraycopy(brought, first, brought, target, count);
            System.arraycopy(took, first, took, target, count);
        }

        boolean stands(int i, int changeSet) {
            return (changeSet >> brought[i] & 1) == 1 && (took[i] & changeSet) == 0;
        }

        int countStanding(int changeSet) {
            return countInBoth(changeSet, changeSet);
        }

        int countInBoth(int oneSet, int otherSet) {
            int count = 0;
            for (int i = 0; i < lines; i++) {
                if (stands(i, oneSet) && stands(i, otherSet)) {
                    count++;
                }
            }
            return count;
        }

        int findStanding(int changeSet, int place) {
            int left = place;
            for (int i = 0; i < lines; i++) {
                if (stands(i, changeSet)) {
                    if (left == 0) {
                        return i;
                    }
                    left--;
                }
            }
            return NONE;
        }

        /** Ahead of the first LINE that only one of them has, both have the same LINES. */
        int findPart(int oneSet, int otherSet) {
            int place = 0;
            for (int i = 0; i < lines; i++) {
                boolean inOne = stands(i, oneSet);
                if (inOne != stands(i, otherSet)) {
                    return place;
                }
                if (inOne) {
                    place++;
                }
            }
            return NONE;
        }

        int countBrought(int v) {
            int count = 0;
            for (int i = 0; i < lines; i++) {
                if (brought[i] == v) {
                    count++;
                }
            }
            return count;
        }

        int countTaken(int v) {
            int count = 0;
            for (int i = 0; i < lines; i++) {
                if (holds(took[i], v)) {
                    count++;
                }
            }
            return count;
        }

        int countShare(int changeSet, int u) {
            int count = 0;
            for (int i = 0; i < lines; i++) {
                if (brought[i] == u && stands(i, changeSet)) {
                    count++;
                }
            }
            return count;
        }

        int lifeOf(int i) {
            int life = 0;
            for (int v = 0; v < versions; v++) {
                if (stands(i, changes[v])) {
                    life |= only(v);
                }
            }
            return life;
        }

        int countGone() {
            int count = 0;
            for (int i = 0; i < lines; i++) {
                if (lifeOf(i) == 0) {
                    count++;
                }
            }
            return count;
        }

        int greatestNesting() {
            int greatest = 0;
            for (int i = 0; i < lines; i++) {
                greatest = Math.max(greatest, 1 + Integer.bitCount(took[i]));
            }
            return greatest;
        }

        long pictureOf(int i) {
            return sign[i] + 256L * brought[i] + 65536L * lifeOf(i);
        }

        // -- blocks

        private boolean beginsBlock(int i) {
            return i == 0 || brought[i] != brought[i - 1] || took[i] != took[i - 1];
        }

        int countBlocks() {
            int count = 0;
            for (int i = 0; i < lines; i++) {
                if (beginsBlock(i)) {
                    count++;
                }
            }
            return count;
        }

        int findBlock(int b) {
            int left = b;
            for (int i = 0; i < lines; i++) {
                if (beginsBlock(i)) {
                    if (left == 0) {
                        return i;
                    }
                    left--;
                }
            }
            return NONE;
        }

        int blockLength(int first) {
            int end = first + 1;
            for (int i = first + 1; i < lines && !beginsBlock(i); i++) {
                end = i + 1;
            }
            return end - first;
        }

        // -- descent

        /** Each goes on from an older one, so that one way down meets all of them. */
        int lineageOf(int v) {
            int lineage = 0;
            int wanted = v;
            for (int k = versions - 1; k >= 0; k--) {
                if (k == wanted) {
                    lineage |= only(k);
                    wanted = from[k];
                }
            }
            return lineage;
        }
    }

    /** Reads the letters that were fed into a weave of its own, up to the first FAULT. */
    private static final class Reader {
        private static final int END = -1;
        private static final int FROM_NONE = 99;
        private static final int CANNOT_STAND = 1;
        private static final int NO_SUCH_VERSION = 2;
        private static final int TOO_MANY = 3;
        private static final int OUT_OF_ORDER = 4;
        // Around one place a VERSION has one 'i' block and one 'd' block at most.
        private static final int DEEPEST = 2 * MOST_VERSIONS;

        private final int[] letters;
        private int length;
        private int at;
        private int numberAt;
        private int faultNumber;
        private int faultAt;
        private final boolean[] blockBrings;
        private final int[] blockBy;
        private int depth;
        private final Weave woven;

        Reader() {
            letters = new int[MOST_LETTERS];
            length = 0;
            at = 0;
            numberAt = 0;
            faultNumber = 0;
            faultAt = NONE;
            blockBrings = new boolean[DEEPEST];
            blockBy = new int[DEEPEST];
            depth = 0;
            woven = new Weave();
        }

        boolean addLetter(int letter) {
            if (length >= MOST_LETTERS) {
                return false;
            }
            letters[length] = letter;
            length++;
            return true;
        }

        /** Answers the number of the FAULT, or 0; no letters are left then. */
        int readAll() {
            at = 0;
            depth = 0;
            faultNumber = 0;
            faultAt = NONE;
            woven.makeEmpty();
            for (int n = 0; n <= MOST_VERSIONS && nextSign() == 'v'; n++) {
                readOneVersion();
            }
            for (int n = 0; n < MOST_LETTERS && nextSign() != END; n++) {
                readItem(nextSign());
            }
            if (depth > 0) {
                fail(CANNOT_STAND, length);
            }
            length = 0;
            return faultNumber;
        }

        // What is read later lies further behind, so that the first one found is the one to tell.
        private void fail(int number, int place) {
            if (faultNumber == 0) {
                faultNumber = number;
                faultAt = place;
            }
        }

        /** The next letter that is no blank; behind a FAULT nothing more is read. */
        private int nextSign() {
            for (; at < length && letters[at] == ' '; at++) {
                // blanks stand for nothing
            }
            return at < length && faultNumber == 0 ? letters[at] : END;
        }

        private void expect(int letter) {
            if (nextSign() == letter) {
                at++;
            } else {
                fail(CANNOT_STAND, at);
            }
        }

        private static boolean isFigure(int letter) {
            return letter >= '0' && letter <= '9';
        }

        private int readNumber() {
            nextSign();
            numberAt = at;
            int value = 0;
            for (; at < length && isFigure(letters[at]); at++) {
                // from the third figure on it is a FAULT, and the value is not wanted
                value = at - numberAt < 2 ? value * 10 + letters[at] - '0' : value;
            }
            if (at == numberAt) {
                fail(CANNOT_STAND, at);
            } else if (at - numberAt > 2) {
                fail(NO_SUCH_VERSION, numberAt);
            }
            return value;
        }

        private int readVersionNumber() {
            int v = readNumber();
            if (!woven.hasVersion(v)) {
                fail(NO_SUCH_VERSION, numberAt);
            }
            return v;
        }

        private int readParent() {
            int v = readNumber();
            if (v != FROM_NONE && !woven.hasVersion(v)) {
                fail(NO_SUCH_VERSION, numberAt);
            }
            return v == FROM_NONE ? NONE : v;
        }

        private void readOneVersion() {
            if (woven.versions >= MOST_VERSIONS) {
                fail(TOO_MANY, at);
                return;
            }
            at++;
            int parent = readParent();
            int includes = readOthers('+', 0);
            int excludes = readOthers('-', includes);
            expect(';');
            if (faultNumber == 0) {
                woven.beginVersion(parent, includes, excludes);
                woven.finishVersion();
            }
        }

        /** The SET of those behind marks of one kind, none of which may be told already. */
        private int readOthers(int mark, int toldAlready) {
            int others = 0;
            for (int n = 0; n <= MOST_VERSIONS && nextSign() == mark; n++) {
                at++;
                int other = readVersionNumber();
                if (Weave.holds(toldAlready | others, other)) {
                    fail(OUT_OF_ORDER, numberAt);
                }
                others |= Weave.only(other);
            }
            return others;
        }

        private void readItem(int letter) {
            if (letter == 'i' || letter == 'd') {
                beginBlock(letter == 'i');
            } else if (letter == ')' && depth > 0) {
                depth--;
                at++;
            } else if (isSign(letter) && bringerAround() != NONE) {
                readOneLine(letter);
            } else {
                fail(CANNOT_STAND, at);
            }
        }

        private void beginBlock(boolean brings) {
            at++;
            int v = readVersionNumber();
            if (v <= bringerAround() || (!brings && Weave.holds(takersAround(), v))) {
                fail(OUT_OF_ORDER, numberAt);
            }
            expect('(');
            if (faultNumber == 0 && depth < DEEPEST) {
                blockBrings[depth] = brings;
                blockBy[depth] = v;
                depth++;
            }
        }

        private void readOneLine(int letter) {
            int by = bringerAround();
            int takers = takersAround();
            if (woven.lines >= MOST_LINES) {
                fail(TOO_MANY, at);
            } else if ((takers & upTo(by)) != 0) {
                fail(OUT_OF_ORDER, at);
            } else {
                woven.insertLine(woven.lines, letter, by, takers);
                at++;
            }
        }

        /** The innermost 'i' block around has the youngest VERSION of them, as they nest by age. */
        private int bringerAround() {
            for (int k = depth - 1; k >= 0; k--) {
                if (blockBrings[k]) {
                    return blockBy[k];
                }
            }
            return NONE;
        }

        private int takersAround() {
            int takers = 0;
            for (int k = 0; k < depth; k++) {
                if (!blockBrings[k]) {
                    takers |= Weave.only(blockBy[k]);
                }
            }
            return takers;
        }

        private static int upTo(int v) {
            return (Weave.only(v) << 1) - 1;
        }
    }

    /** SHEETS: a row for each, and how many of its numbers are in use (NONE: it is missing). */
    private static final class Sheets {
        private final long[][] numbers;
        private final int[] sizes;

        Sheets() {
            numbers = new long[MOST_SHEETS][MOST_NUMBERS];
            sizes = new int[MOST_SHEETS];
            for (int s = 0; s < MOST_SHEETS; s++) {
                sizes[s] = NONE;
            }
        }

        boolean hasNumber(int s) {
            return s >= 0 && s < MOST_SHEETS;
        }

        int countThere() {
            int count = 0;
            for (int s = 0; s < MOST_SHEETS; s++) {
                if (sizes[s] != NONE) {
                    count++;
                }
            }
            return count;
        }

        void lay(int s, int n) {
            for (int i = 0; i < MOST_NUMBERS; i++) {
                numbers[s][i] = 0L;
            }
            sizes[s] = n;
        }

        /** What speaks against n numbers from place i on, or 0. */
        int findWrong(int s, int i, int n) {
            if (!hasNumber(s)) {
                return UNKNOWN;
            }
            if (sizes[s] == NONE) {
                return NULL;
            }
            // i added to n could go round, so they are taken from the size
            if (i < 0 || n < 0 || i > sizes[s] || n > sizes[s] - i) {
                return PLACE;
            }
            return 0;
        }
    }

    /** Numbers by lots of a SEED. */
    private static final class Lots {
        private static final long FACTOR = 16807L;
        private static final long DIVISOR = 2147483647L;

        private long x;

        Lots() {
            x = 1L;
        }

        void start(int seed) {
            x = seed;
        }

        int below(int bound) {
            x = x * FACTOR % DIVISOR;
            return bound > 0 ? (int) (x % bound) : 0;
        }
    }
}
