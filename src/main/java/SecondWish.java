import java.util.Arrays;

/** A town where every wish comes true, but for whoever next wishes the same. */
public final class SecondWish {
    public static final int BAD = -1, FULL = -2, FINDING = -3, STATE = -4, SPENT = -6, NONE = -9;

    private static final int NOTHING = 1, BEYOND = 2, UNLIKE = 3, NOUGHT = 4, SIZE = 5;
    private static final int ROWS = 6, TEXTS = 4, KEPT = 3;
    private static final int ROW_SIZE = 40, TEXT_SIZE = 80;
    private static final int MOST = 6;
    private static final int MOST_SAYINGS = 40, MOST_JUDGED = 20, MOST_SPOKE = 6;
    private static final int MOST_TURNS = 5, MOST_STEPS = 3, MOST_DRAWN = 3, MOST_LOTS = 20;
    private static final int SILENT = 9, WHO_BY = 10;
    private static final int BLANK = 32;
    private static final long LOT_FACTOR = 48271L, LOT_MODULUS = 2147483647L;
    private static final int LOT_CUT = 64;

    private static final int ONE = 0, MISER = 1, CHILD = 2, BAKER = 3, LOVER = 4, BROKER = 5, KINDS = 6;
    private static final int[] PARENT = {NONE, ONE, ONE, ONE, CHILD, MISER};
    private static final char[] LETTER = {'o', 'm', 'c', 'b', 'l', 'k'};

    private static final int IDLE = 0, BECAME_FIRST = 1, GRANTED = 2;

    private final Line[] rows = new Line[ROWS];
    private final Line[] texts = new Line[TEXTS];
    private final Town here = new Town();
    private final Day today = new Day();
    private final Day[] keptDays = new Day[KEPT];
    private final boolean[] isKept = new boolean[KEPT];
    private final Reader reader = new Reader();
    private final Foresight foresight = new Foresight();
    private final Past past = new Past();
    private final Giving giving = new Giving();
    private final Circle circle = new Circle();
    private final int[] findingsOf = new int[SIZE + 1];
    private int latestFinding = 0;
    private int told = 0;
    private long chancesUpper = 0;
    private long chancesLower = 1;

    public SecondWish() {
        for (int r = 0; r < ROWS; r++) {
            rows[r] = new Line(ROW_SIZE);
        }
        for (int t = 0; t < TEXTS; t++) {
            texts[t] = new Line(TEXT_SIZE);
        }
        for (int k = 0; k < KEPT; k++) {
            keptDays[k] = new Day();
        }
    }

    // ---- 1 rows, texts, towns

    public int row(int r, int n) {
        return lineAnew(rows, r, n, 0);
    }

    public int lay(int r, int i, int v) {
        if (!isRow(r)) {
            return BAD;
        }
        int refused = refusePlace(rows[r], i);
        if (refused != 0) {
            return refused;
        }
        told = rows[r].places[i];
        rows[r].places[i] = v;
        return 1;
    }

    public int at(int r, int i) {
        if (!isRow(r)) {
            return BAD;
        }
        int refused = refusePlace(rows[r], i);
        if (refused != 0) {
            return refused;
        }
        told = rows[r].places[i];
        return 1;
    }

    public int tear(int r) {
        if (!isRow(r)) {
            return BAD;
        }
        if (rows[r].isMissing()) {
            return find(NOTHING);
        }
        rows[r].lose();
        return 1;
    }

    public int copy(int r, int i, int to, int j, int n) {
        if (!isRow(r) || !isRow(to)) {
            return BAD;
        }
        if (n < 0) {
            return find(SIZE);
        }
        if (rows[r].isMissing() || rows[to].isMissing()) {
            return find(NOTHING);
        }
        if (!rows[r].hasRange(i, n) || !rows[to].hasRange(j, n)) {
            return find(BEYOND);
        }
        System.arraycopy(rows[r].places, i, rows[to].places, j, n);
        return 1;
    }

    public int mean(int r) {
        if (!isRow(r)) {
            return BAD;
        }
        if (rows[r].isMissing()) {
            return find(NOTHING);
        }
        int size = rows[r].size;
        if (size == 0) {
            return find(NOUGHT);
        }
        told = (int) (rows[r].sum() / size);
        return 1;
    }

    public int text(int t, int n) {
        return lineAnew(texts, t, n, BLANK);
    }

    public int put(int t, int i, int v) {
        if (!isText(t)) {
            return BAD;
        }
        int refused = refusePlace(texts[t], i);
        if (refused != 0) {
            return refused;
        }
        int was = texts[t].places[i];
        texts[t].places[i] = (byte) v;
        return was + 1000;
    }

    public int fault(int t) {
        if (!isText(t)) {
            return BAD;
        }
        if (texts[t].isMissing()) {
            return find(NOTHING);
        }
        return reader.read(texts[t]);
    }

    public int town(int t) {
        if (!isText(t)) {
            return BAD;
        }
        if (texts[t].isMissing()) {
            return find(NOTHING);
        }
        if (reader.read(texts[t]) != NONE) {
            return STATE;
        }
        here.become(reader.town);
        today.become(reader.day);
        for (int k = 0; k < KEPT; k++) {
            isKept[k] = false;
        }
        return here.people;
    }

    public int one(int x, int what) {
        if (!here.hasOne(x) || what < 0 || what > 4) {
            return BAD;
        }
        told = ofOne(x, what);
        return 1;
    }

    public int thing(int w, int what) {
        if (!here.hasThing(w) || what < 0 || what > 3) {
            return BAD;
        }
        told = ofThing(w, what);
        return 1;
    }

    public int mark(int x, int kind) {
        if (!here.hasOne(x) || kind <= ONE || kind >= KINDS) {
            return BAD;
        }
        if (!here.isOf(x, kind)) {
            return find(UNLIKE);
        }
        return switch (kind) {
            case MISER -> Integer.bitCount(today.firstOf(x));
            case CHILD -> today.sayingsBy(x);
            case BAKER -> here.heardBy(x);
            case LOVER -> today.givenBy(x);
            default -> Integer.bitCount(today.firstOf(x) & today.hasOf(x));
        };
    }

    public int want(int x, int w, int v) {
        if (!here.hasOne(x) || !here.hasThing(w) || v < 0 || v > 9) {
            return BAD;
        }
        int was = today.worth[x][w];
        today.worth[x][w] = v;
        return was;
    }

    public int tell(int x, int by, int is) {
        if (!here.hasOne(x) || !here.hasOne(by) || x == by || is < 0 || is > 1) {
            return BAD;
        }
        int was = here.told[x] >> by & 1;
        here.told[x] = here.told[x] & ~(1 << by) | is << by;
        return was;
    }

    // ---- 2 said, granted

    public int say(int x, int w) {
        if (!here.hasOne(x) || !here.hasThing(w)) {
            return BAD;
        }
        if (today.spoken >= MOST_SAYINGS) {
            return FULL;
        }
        boolean granted = speak(x, w);
        told = today.owner[w];
        return granted ? 1 : 0;
    }

    public int undo(int n) {
        if (n < 0 || n > today.spoken) {
            return BAD;
        }
        int undone = today.spoken - n;
        today.forgetFrom(n);
        return undone;
    }

    public int can(int x) {
        return here.hasOne(x) ? today.grantableBy(here, x) : BAD;
    }

    public int knows(int x) {
        if (!here.hasOne(x)) {
            return BAD;
        }
        return today.grantableBy(here, x) & today.heardOfBy(x) & today.wantedBy(x);
    }

    public int dusk() {
        int holding = today.holding(here);
        int all = 0;
        for (int x = 0; x < here.people; x++) {
            all += today.worthOf(x, holding & today.hasOf(x));
        }
        told = all;
        return holding;
    }

    public int keep(int k) {
        if (!isPlace(k)) {
            return BAD;
        }
        if (here.people == 0) {
            return STATE;
        }
        keptDays[k].become(today);
        isKept[k] = true;
        return today.spoken;
    }

    public int on(int k) {
        if (!isPlace(k)) {
            return BAD;
        }
        if (!isKept[k]) {
            return find(NOTHING);
        }
        today.become(keptDays[k]);
        return today.spoken;
    }

    // ---- 3 what to say (aside)

    public int best(int x) {
        if (!here.hasOne(x)) {
            return BAD;
        }
        foresight.begin(here, today);
        int word = foresight.bestWord(x);
        told = foresight.bestGain;
        return word;
    }

    public int plays(int x, int n, int r) {
        if (!here.hasOne(x) || n < 0 || n > MOST_TURNS || !isRow(r)) {
            return BAD;
        }
        foresight.begin(here, today);
        return foresight.playOut(x, n, rows[r]);
    }

    public int sure(int x, int n) {
        if (!here.hasOne(x) || n < 0 || n > MOST_TURNS) {
            return BAD;
        }
        foresight.begin(here, today);
        return foresight.gainAgainstAll(x, n);
    }

    public int fewest(int x, int w, int r) {
        if (!here.hasOne(x) || !here.hasThing(w) || !isRow(r)) {
            return BAD;
        }
        foresight.begin(here, today);
        return foresight.fewestSteps(x, w, rows[r]);
    }

    // ---- 4 who should have what

    public int match(int r) {
        if (!isRow(r)) {
            return BAD;
        }
        if (here.people == 0) {
            return STATE;
        }
        return giving.giveOut(here, today, rows[r]);
    }

    public int safe(int x, int y) {
        if (!here.hasOne(x) || !here.hasOne(y) || x == y) {
            return BAD;
        }
        int hearers = here.hearersOf(x);
        if ((hearers >> y & 1) == 0) {
            return 0;
        }
        int things = today.wantedBy(y);
        for (int w = 0; w < here.things; w++) {
            boolean others = (today.wantersOf(w) & hearers & ~(1 << y)) != 0;
            if (today.first[w] != NONE || others) {
                things &= ~(1 << w);
            }
        }
        return things;
    }

    public int price(int w) {
        if (!here.hasThing(w)) {
            return BAD;
        }
        if (!today.isWaiting(w)) {
            return NONE;
        }
        int most = 0;
        int who = NONE;
        for (int x = 0; x < here.people; x++) {
            if (x != today.first[w] && today.worth[x][w] > most) {
                most = today.worth[x][w];
                who = x;
            }
        }
        if (who == NONE) {
            return NONE;
        }
        told = who;
        return most;
    }

    public int rounds() {
        int found = circle.all(here);
        told = (1 << here.things) - 1 & ~circle.within;
        return found;
    }

    // ---- 5 who was first

    public int said(int r, int to) {
        if (!isRow(r) || !isRow(to)) {
            return BAD;
        }
        if (here.people == 0) {
            return STATE;
        }
        int refused = refuseSpeakers(rows[r]);
        if (refused != 0) {
            return refused;
        }
        past.begin(here, today, rows[r]);
        return past.countWays(rows[to]);
    }

    public int firsts(int w, int r) {
        if (!isRow(r)) {
            return BAD;
        }
        if (here.people == 0) {
            return STATE;
        }
        if (!here.hasThing(w)) {
            return BAD;
        }
        int refused = refuseSpeakers(rows[r]);
        if (refused != 0) {
            return refused;
        }
        past.begin(here, today, rows[r]);
        return past.firstsOf(w);
    }

    public int judge(int r) {
        if (!isRow(r)) {
            return BAD;
        }
        if (here.people == 0) {
            return STATE;
        }
        Line line = rows[r];
        if (line.isMissing()) {
            return find(NOTHING);
        }
        if (line.size > MOST_JUDGED) {
            return find(SIZE);
        }
        for (int i = 0; i < line.size; i++) {
            if (!here.hasSaying(line.places[i])) {
                return find(UNLIKE);
            }
        }
        foresight.begin(here, today);
        int granted = foresight.judgeAll(line);
        told = foresight.firstIdle;
        return granted;
    }

    // ---- 6 lots

    public int odds(int x, int w, int n) {
        if (!here.hasOne(x) || !here.hasThing(w) || n < 0 || n > MOST_DRAWN) {
            return BAD;
        }
        foresight.begin(here, today);
        long all = foresight.allWays(n);
        long good = foresight.waysTo(x, w, n);
        long shared = greatestShared(all, good);
        if (shared > 0) {
            chancesUpper = good / shared;
            chancesLower = all / shared;
        }
        return 1;
    }

    public int lots(int n, int seed) {
        if (n < 1 || n > MOST_LOTS || seed < 1 || seed >= LOT_MODULUS) {
            return BAD;
        }
        if (here.people == 0 || here.things == 0) {
            return STATE;
        }
        if (today.spoken + n > MOST_SAYINGS) {
            return FULL;
        }
        int granted = 0;
        long lot = seed;
        for (int i = 0; i < n; i++) {
            lot = LOT_FACTOR * lot % LOT_MODULUS;
            int who = (int) (lot % here.people);
            int thing = (int) (lot / LOT_CUT % here.things);
            if (speak(who, thing)) {
                granted++;
            }
        }
        return granted;
    }

    // ---- 7 what is told

    public int asked() {
        return told;
    }

    public long upper() {
        return chancesUpper;
    }

    public long lower() {
        return chancesLower;
    }

    public int count(int what) {
        return switch (what) {
            case 0 -> here.people;
            case 1 -> here.things;
            case 2 -> today.spoken;
            case 3 -> today.granted;
            case 4 -> today.waiting();
            case 5 -> Integer.bitCount(here.allOf(MISER));
            case 6 -> linesThere(rows);
            case 7 -> linesThere(texts);
            case 8 -> daysKept();
            default -> BAD;
        };
    }

    public int finding() {
        return latestFinding;
    }

    public int findings(int f) {
        return f >= NOTHING && f <= SIZE ? findingsOf[f] : BAD;
    }

    public long digest() {
        long h = 17;
        for (int what = 0; what <= 8; what++) {
            h = mix(h, count(what));
        }
        h = mixTown(h);
        for (int i = 0; i < today.spoken; i++) {
            h = mix(h, today.sayings[i]);
        }
        for (int k = 0; k < KEPT; k++) {
            h = mix(h, isKept[k] ? keptDays[k].spoken : -1);
        }
        h = mixLines(h, rows);
        return mixLines(h, texts);
    }

    // ---- what the calls share

    private static boolean isRow(int r) {
        return r >= 0 && r < ROWS;
    }

    private static boolean isText(int t) {
        return t >= 0 && t < TEXTS;
    }

    private static boolean isPlace(int k) {
        return k >= 0 && k < KEPT;
    }

    private int find(int f) {
        latestFinding = f;
        findingsOf[f]++;
        return FINDING;
    }

    private int lineAnew(Line[] lines, int number, int n, int filler) {
        if (number < 0 || number >= lines.length || n > lines[number].places.length) {
            return BAD;
        }
        if (n < 0) {
            return find(SIZE);
        }
        lines[number].makeAnew(n, filler);
        return n;
    }

    /** The refusal of a place of a ROW, a TEXT, or 0 if it is there. */
    private int refusePlace(Line line, int i) {
        if (line.isMissing()) {
            return find(NOTHING);
        }
        return line.hasPlace(i) ? 0 : find(BEYOND);
    }

    /** The refusal of a ROW that should tell who spoke, or 0 if it does. */
    private int refuseSpeakers(Line line) {
        if (line.isMissing()) {
            return find(NOTHING);
        }
        if (line.size > MOST_SPOKE) {
            return find(SIZE);
        }
        for (int i = 0; i < line.size; i++) {
            if (!here.hasOne(line.places[i])) {
                return find(UNLIKE);
            }
        }
        return 0;
    }

    /** A WISH is truly SAID; the callers look at the room for SAYINGS. */
    private boolean speak(int x, int w) {
        int outcome = today.wish(here, x, w);
        if (outcome == BECAME_FIRST) {
            today.hearers[w] = here.hearersOf(x);
        }
        today.record(x, w, outcome);
        return outcome == GRANTED;
    }

    private int ofOne(int x, int what) {
        return switch (what) {
            case 0 -> here.kind[x];
            case 1 -> here.hearersOf(x);
            case 2 -> today.heardOfBy(x);
            case 3 -> today.hasOf(x);
            default -> today.gainOf(here, x);
        };
    }

    private int ofThing(int w, int what) {
        return switch (what) {
            case 0 -> today.first[w];
            case 1 -> today.owner[w];
            case 2 -> here.undoes[w];
            default -> today.holding(here) >> w & 1;
        };
    }

    private static int linesThere(Line[] lines) {
        int there = 0;
        for (Line line : lines) {
            if (!line.isMissing()) {
                there++;
            }
        }
        return there;
    }

    private int daysKept() {
        int kept = 0;
        for (boolean is : isKept) {
            if (is) {
                kept++;
            }
        }
        return kept;
    }

    private static long greatestShared(long a, long b) {
        long greater = a;
        long less = b;
        // Each two steps halve the less one, so that 128 are enough for any long.
        for (int step = 0; step < 128 && less != 0; step++) {
            long rest = greater % less;
            greater = less;
            less = rest;
        }
        return greater;
    }

    private static long mix(long h, long v) {
        return 31 * h + v;
    }

    private long mixTown(long before) {
        long h = before;
        for (int x = 0; x < here.people; x++) {
            for (int what = 0; what <= 4; what++) {
                h = mix(h, ofOne(x, what));
            }
            for (int w = 0; w < here.things; w++) {
                h = mix(h, today.worth[x][w]);
            }
        }
        for (int w = 0; w < here.things; w++) {
            for (int what = 0; what <= 3; what++) {
                h = mix(h, ofThing(w, what));
            }
        }
        return h;
    }

    private static long mixLines(long before, Line[] lines) {
        long h = before;
        for (Line line : lines) {
            h = mix(h, line.size);
            for (int i = 0; i < line.size; i++) {
                h = mix(h, line.places[i]);
            }
        }
        return h;
    }

    /** A ROW or a TEXT; its places are made once and used again. */
    private static final class Line {
        static final int MISSING = -1;
        final int[] places;
        int size = MISSING;

        Line(int most) {
            places = new int[Math.max(0, most)];
        }

        boolean isMissing() {
            return size == MISSING;
        }

        boolean hasPlace(int i) {
            return i >= 0 && i < size;
        }

        boolean hasRange(int i, int n) {
            // Taken from the size, since i + n could wrap around.
            return i >= 0 && i <= size && n <= size - i;
        }

        void lose() {
            size = MISSING;
        }

        void makeAnew(int n, int filler) {
            size = Math.max(0, Math.min(n, places.length));
            for (int i = 0; i < size; i++) {
                places[i] = filler;
            }
        }

        void makeOf(int[] values, int n) {
            makeAnew(Math.min(n, values.length), 0);
            System.arraycopy(values, 0, places, 0, size);
        }

        long sum() {
            long sum = 0;
            for (int i = 0; i < size; i++) {
                sum += places[i];
            }
            return sum;
        }
    }

    /** Who the PEOPLE are, who is told to hear whom, what undoes what. */
    private static final class Town {
        int people = 0;
        int things = 0;
        final int[] kind = new int[MOST];
        final int[] told = new int[MOST];
        final int[] undoes = new int[MOST];

        void clear() {
            people = 0;
            things = 0;
            Arrays.fill(kind, ONE);
            Arrays.fill(told, 0);
            Arrays.fill(undoes, 0);
        }

        void become(Town other) {
            people = other.people;
            things = other.things;
            System.arraycopy(other.kind, 0, kind, 0, MOST);
            System.arraycopy(other.told, 0, told, 0, MOST);
            System.arraycopy(other.undoes, 0, undoes, 0, MOST);
        }

        boolean hasOne(int x) {
            return x >= 0 && x < people;
        }

        boolean hasThing(int w) {
            return w >= 0 && w < things;
        }

        boolean hasSaying(int saying) {
            if (saying < 0) {
                return false;
            }
            int word = saying % WHO_BY;
            return hasOne(saying / WHO_BY) && (hasThing(word) || word == SILENT);
        }

        int behind(int x) {
            return x + 1 < people ? x + 1 : 0;
        }

        boolean isOf(int x, int k) {
            int own = kind[x];
            return own == k || PARENT[own] == k || k == ONE;
        }

        int allOf(int k) {
            int bits = 0;
            for (int x = 0; x < people; x++) {
                if (isOf(x, k)) {
                    bits |= 1 << x;
                }
            }
            return bits;
        }

        int othersThan(int x) {
            return (1 << people) - 1 & ~(1 << x);
        }

        int hearersOf(int x) {
            if (isOf(x, CHILD)) {
                return othersThan(x);
            }
            if (isOf(x, MISER)) {
                return 0;
            }
            // A TEXT may tell oneself, or one that there is not, to hear: that is nobody.
            return (told[x] | allOf(BAKER)) & othersThan(x);
        }

        int heardBy(int y) {
            int heard = 0;
            for (int x = 0; x < people; x++) {
                heard += hearersOf(x) >> y & 1;
            }
            return heard;
        }
    }

    /** What the PEOPLE want and SAID, and what came of it: all that is kept of a TOWN. */
    private static final class Day {
        final int[][] worth = new int[MOST][MOST];
        final int[] first = new int[MOST];
        final int[] owner = new int[MOST];
        final int[] giver = new int[MOST];
        final int[] hearers = new int[MOST];
        final int[] order = new int[MOST];
        int granted = 0;
        final int[] sayings = new int[MOST_SAYINGS];
        final int[] outcomes = new int[MOST_SAYINGS];
        int spoken = 0;

        Day() {
            clear();
        }

        void clear() {
            for (int x = 0; x < MOST; x++) {
                Arrays.fill(worth[x], 0);
            }
            Arrays.fill(first, NONE);
            Arrays.fill(owner, NONE);
            Arrays.fill(giver, NONE);
            Arrays.fill(hearers, 0);
            granted = 0;
            spoken = 0;
        }

        void become(Day other) {
            becomeAside(other);
            System.arraycopy(other.giver, 0, giver, 0, MOST);
            System.arraycopy(other.hearers, 0, hearers, 0, MOST);
            System.arraycopy(other.sayings, 0, sayings, 0, other.spoken);
            System.arraycopy(other.outcomes, 0, outcomes, 0, other.spoken);
            spoken = other.spoken;
        }

        /** Takes over what thinking needs: not who heard, nor the SAYINGS one by one. */
        void becomeAside(Day other) {
            for (int x = 0; x < MOST; x++) {
                System.arraycopy(other.worth[x], 0, worth[x], 0, MOST);
            }
            System.arraycopy(other.first, 0, first, 0, MOST);
            System.arraycopy(other.owner, 0, owner, 0, MOST);
            System.arraycopy(other.order, 0, order, 0, MOST);
            granted = other.granted;
        }

        boolean isWaiting(int w) {
            return first[w] != NONE && owner[w] == NONE;
        }

        boolean isGrantable(Town town, int x, int w) {
            return isWaiting(w) && (first[w] != x || town.isOf(x, BROKER));
        }

        /** What comes of a WISH, without its being recorded: IDLE, BECAME_FIRST or GRANTED. */
        int wish(Town town, int x, int w) {
            if (first[w] == NONE) {
                first[w] = x;
                return BECAME_FIRST;
            }
            if (granted >= MOST || !isGrantable(town, x, w)) {
                return IDLE;
            }
            owner[w] = town.isOf(x, LOVER) ? first[w] : x;
            giver[w] = x;
            order[granted] = w;
            granted++;
            return GRANTED;
        }

        /** Undoes the latest WISH that is not yet taken back. */
        void takeBack(int w, int outcome) {
            if (outcome == BECAME_FIRST) {
                first[w] = NONE;
                hearers[w] = 0;
            } else if (outcome == GRANTED) {
                owner[w] = NONE;
                giver[w] = NONE;
                granted--;
            }
        }

        void record(int x, int w, int outcome) {
            if (spoken < MOST_SAYINGS) {
                sayings[spoken] = WHO_BY * x + w;
                outcomes[spoken] = outcome;
                spoken++;
            }
        }

        void forgetFrom(int n) {
            // The latest first, so that the order of what is GRANTED comes off its end.
            for (int i = spoken - 1; i >= n && i >= 0; i--) {
                takeBack(sayings[i] % WHO_BY, outcomes[i]);
                spoken = i;
            }
        }

        int waiting() {
            int waiting = 0;
            for (int w = 0; w < MOST; w++) {
                if (isWaiting(w)) {
                    waiting++;
                }
            }
            return waiting;
        }

        int grantableBy(Town town, int x) {
            int bits = 0;
            for (int w = 0; w < town.things; w++) {
                if (isGrantable(town, x, w)) {
                    bits |= 1 << w;
                }
            }
            return bits;
        }

        int heardOfBy(int x) {
            int bits = 0;
            for (int w = 0; w < MOST; w++) {
                bits |= (hearers[w] >> x & 1) << w;
            }
            return bits;
        }

        int wantedBy(int x) {
            int bits = 0;
            for (int w = 0; w < MOST; w++) {
                if (worth[x][w] > 0) {
                    bits |= 1 << w;
                }
            }
            return bits;
        }

        int wantersOf(int w) {
            int bits = 0;
            for (int x = 0; x < MOST; x++) {
                if (worth[x][w] > 0) {
                    bits |= 1 << x;
                }
            }
            return bits;
        }

        int firstOf(int x) {
            return thingsWith(first, x);
        }

        int hasOf(int x) {
            return thingsWith(owner, x);
        }

        int givenBy(int x) {
            return Integer.bitCount(thingsWith(giver, x));
        }

        private static int thingsWith(int[] whose, int x) {
            int bits = 0;
            for (int w = 0; w < MOST; w++) {
                if (whose[w] == x) {
                    bits |= 1 << w;
                }
            }
            return bits;
        }

        int sayingsBy(int x) {
            int did = 0;
            for (int i = 0; i < spoken; i++) {
                if (sayings[i] / WHO_BY == x) {
                    did++;
                }
            }
            return did;
        }

        int holding(Town town) {
            int holding = 0;
            int undone = 0;
            for (int i = granted - 1; i >= 0; i--) {
                int w = order[i];
                if ((undone >> w & 1) == 0) {
                    holding |= 1 << w;
                    undone |= town.undoes[w];
                }
            }
            return holding;
        }

        int worthOf(int x, int bits) {
            int sum = 0;
            for (int w = 0; w < MOST; w++) {
                if ((bits >> w & 1) != 0) {
                    sum += worth[x][w];
                }
            }
            return sum;
        }

        int gainOf(Town town, int x) {
            return worthOf(x, hasOf(x) & holding(town));
        }
    }

    /** Reads a TEXT into a TOWN and a Day of its own; each step goes on only as far as it fits. */
    private static final class Reader {
        static final int MOST_WANTS = 16, MOST_UNDOINGS = 6;
        final Town town = new Town();
        final Day day = new Day();
        private int[] signs = {};
        private int size = 0;
        private int place = 0;

        /** The FAULT of a TEXT, or NONE: the place where reading can't go on is the FAULT. */
        int read(Line line) {
            signs = line.places;
            size = line.size;
            place = 0;
            town.clear();
            day.clear();
            if (!readThings() || !readPeople() || !readWants() || !readUndoings()) {
                return place;
            }
            return place >= size ? NONE : place;
        }

        private int sign() {
            return place >= 0 && place < size && place < signs.length ? signs[place] : NONE;
        }

        private void skipBlanks() {
            for (int i = 0; i < size && sign() == BLANK; i++) {
                place++;
            }
        }

        private boolean take(int wanted) {
            if (sign() != wanted) {
                return false;
            }
            place++;
            return true;
        }

        /** A figure from least up to most, taken; NONE if it is none such. */
        private int takeFigure(int least, int most) {
            int figure = sign() - '0';
            if (figure < least || figure > most) {
                return NONE;
            }
            place++;
            return figure;
        }

        private boolean readThings() {
            skipBlanks();
            if (!take('t')) {
                return false;
            }
            int figure = takeFigure(1, MOST);
            if (figure == NONE) {
                return false;
            }
            town.things = figure;
            skipBlanks();
            return true;
        }

        private boolean readPeople() {
            for (int x = 0; x < MOST; x++) {
                int kind = kindOf(sign());
                if (kind == NONE) {
                    return x > 0;
                }
                place++;
                town.kind[x] = kind;
                town.told[x] = takeRising();
                town.people = x + 1;
                skipBlanks();
            }
            return true;
        }

        private static int kindOf(int sign) {
            for (int kind = 0; kind < KINDS; kind++) {
                if (LETTER[kind] == sign) {
                    return kind;
                }
            }
            return NONE;
        }

        private int takeRising() {
            int bits = 0;
            int least = 0;
            for (int i = 0; i < MOST; i++) {
                int figure = takeFigure(least, MOST - 1);
                if (figure == NONE) {
                    return bits;
                }
                bits |= 1 << figure;
                least = figure + 1;
            }
            return bits;
        }

        private boolean readWants() {
            for (int i = 0; i < MOST_WANTS && take('w'); i++) {
                int x = takeFigure(0, town.people - 1);
                if (x == NONE) {
                    return false;
                }
                int w = takeFigure(0, town.things - 1);
                if (w == NONE) {
                    return false;
                }
                int worth = takeFigure(1, 9);
                if (worth == NONE) {
                    return false;
                }
                day.worth[x][w] = worth;
                skipBlanks();
            }
            return true;
        }

        private boolean readUndoings() {
            for (int i = 0; i < MOST_UNDOINGS && take('u'); i++) {
                int w = takeFigure(0, town.things - 1);
                if (w == NONE || sign() == '0' + w) {
                    return false;
                }
                int undone = takeFigure(0, town.things - 1);
                if (undone == NONE) {
                    return false;
                }
                town.undoes[w] |= 1 << undone;
                skipBlanks();
            }
            return true;
        }
    }

    /** Thinks aside, on a TOWN and a Day of its own, of what may still be SAID. */
    private static final class Foresight {
        /** A line of play in a long: each one's GAIN, and above these what is SAID, the next word lowest. */
        private static final int GAIN_BITS = 6, WORD_BITS = 3, WORDS_FROM = GAIN_BITS * MOST;
        private static final int GAIN_MASK = 63, WORD_MASK = 7, NO_WORD = 7;
        private static final long GAINS_MASK = (1L << WORDS_FROM) - 1;

        private final Town town = new Town();
        private final Day day = new Day();
        private final int[] steps = new int[MOST_STEPS];
        int bestGain = 0;
        int firstIdle = NONE;

        void begin(Town here, Day today) {
            town.become(here);
            day.becomeAside(today);
        }

        int bestWord(int x) {
            int word = SILENT;
            bestGain = day.gainOf(town, x);
            for (int w = 0; w < town.things; w++) {
                int outcome = day.wish(town, x, w);
                int gain = day.gainOf(town, x);
                day.takeBack(w, outcome);
                if (gain > bestGain) {
                    bestGain = gain;
                    word = w;
                }
            }
            return word;
        }

        /** What all say if each thinks ahead comes to a ROW; answers the GAIN of who begins. */
        int playOut(int x, int n, Line row) {
            long line = thinkAhead(x, n);
            row.makeAnew(n, 0);
            int who = x;
            for (int i = 0; i < row.size; i++) {
                int word = (int) (line >>> WORDS_FROM + WORD_BITS * i) & WORD_MASK;
                row.places[i] = WHO_BY * who + (word == NO_WORD ? SILENT : word);
                who = town.behind(who);
            }
            return gainIn(line, x);
        }

        private long thinkAhead(int who, int left) {
            if (left <= 0) {
                return allGains();
            }
            int next = town.behind(who);
            long quiet = thinkAhead(next, left - 1);
            long chosen = 0;
            int most = -1;
            for (int w = 0; w < town.things; w++) {
                int outcome = day.wish(town, who, w);
                long line = changesGains(outcome, left) ? thinkAhead(next, left - 1) : quiet;
                day.takeBack(w, outcome);
                if (gainIn(line, who) > most) {
                    most = gainIn(line, who);
                    chosen = withWord(line, w);
                }
            }
            return gainIn(quiet, who) > most ? withWord(quiet, NO_WORD) : chosen;
        }

        /** A WISH of which nothing comes, and a FIRST of the last turn, leads to the same GAINS as SILENCE. */
        private static boolean changesGains(int outcome, int left) {
            return outcome == GRANTED || outcome == BECAME_FIRST && left > 1;
        }

        private long allGains() {
            int holding = day.holding(town);
            long line = 0;
            for (int w = 0; w < town.things; w++) {
                if ((holding >> w & 1) != 0) {
                    int x = day.owner[w];
                    line += (long) day.worth[x][w] << GAIN_BITS * x;
                }
            }
            return line;
        }

        private static int gainIn(long line, int x) {
            return (int) (line >>> GAIN_BITS * x) & GAIN_MASK;
        }

        private static long withWord(long line, int word) {
            long words = line >>> WORDS_FROM << WORD_BITS | word;
            return line & GAINS_MASK | words << WORDS_FROM;
        }

        int gainAgainstAll(int x, int n) {
            return sureGain(x, x, n);
        }

        private int sureGain(int x, int who, int left) {
            if (left <= 0) {
                return day.gainOf(town, x);
            }
            int next = town.behind(who);
            int sure = sureGain(x, next, left - 1);
            for (int w = 0; w < town.things; w++) {
                int outcome = day.wish(town, who, w);
                if (changesGains(outcome, left)) {
                    int gain = sureGain(x, next, left - 1);
                    sure = who == x ? Math.max(sure, gain) : Math.min(sure, gain);
                }
                day.takeBack(w, outcome);
            }
            return sure;
        }

        int fewestSteps(int x, int w, Line row) {
            for (int n = 0; n <= MOST_STEPS; n++) {
                if (reaches(x, w, 0, n)) {
                    row.makeOf(steps, n);
                    return n;
                }
            }
            return NONE;
        }

        private boolean reaches(int x, int w, int done, int n) {
            if (isOutOfReach(x, w, n - done)) {
                return false;
            }
            if (done >= n) {
                return (day.holding(town) >> w & 1) != 0;
            }
            for (int who = 0; who < town.people; who++) {
                for (int said = 0; said < town.things; said++) {
                    int outcome = day.wish(town, who, said);
                    // Without a WISH of which nothing comes the row would be shorter.
                    boolean found = outcome != IDLE && reaches(x, w, done + 1, n);
                    day.takeBack(said, outcome);
                    if (found) {
                        steps[done] = WHO_BY * who + said;
                        return true;
                    }
                }
            }
            return false;
        }

        /** Another one has the THING already, or there are too few SAYINGS left to have it GRANTED. */
        private boolean isOutOfReach(int x, int w, int left) {
            if (day.owner[w] != NONE) {
                return day.owner[w] != x;
            }
            return left < (day.first[w] == NONE ? 2 : 1);
        }

        int judgeAll(Line row) {
            int granted = 0;
            firstIdle = NONE;
            for (int i = 0; i < row.size; i++) {
                int word = row.places[i] % WHO_BY;
                int outcome = word == SILENT ? IDLE : day.wish(town, row.places[i] / WHO_BY, word);
                if (outcome == GRANTED) {
                    granted++;
                }
                if (outcome == IDLE && firstIdle == NONE) {
                    firstIdle = i;
                }
            }
            return granted;
        }

        long allWays(int n) {
            long ways = 1;
            for (int i = 0; i < n; i++) {
                ways *= (long) town.people * town.things;
            }
            return ways;
        }

        /** By how many rows of n SAYINGS a THING is GRANTED to one. */
        long waysTo(int x, int w, int n) {
            return goodWays(x, w, n);
        }

        private long goodWays(int x, int w, int n) {
            if (day.owner[w] != NONE) {
                return day.owner[w] == x ? allWays(n) : 0;
            }
            if (n <= 0) {
                return 0;
            }
            // SAYINGS of other THINGS change nothing of this one.
            long ways = (long) town.people * (town.things - 1) * goodWays(x, w, n - 1);
            for (int who = 0; who < town.people; who++) {
                int outcome = day.wish(town, who, w);
                ways += goodWays(x, w, n - 1);
                day.takeBack(w, outcome);
            }
            return ways;
        }
    }

    /** Goes through all THINGS that those who spoke can have SAID, from nothing SAID on. */
    private static final class Past {
        private final Town town = new Town();
        private final Day now = new Day();
        private final Day tried = new Day();
        private final int[] speakers = new int[MOST_SPOKE];
        private final int[] words = new int[MOST_SPOKE];
        private final int[] firstWords = new int[MOST_SPOKE];
        private int size = 0;
        private boolean firstsMatter = false;
        private int thing = 0;
        private int ways = 0;
        private int canBeFirst = 0;

        void begin(Town here, Day today, Line people) {
            town.become(here);
            now.becomeAside(today);
            tried.clear();
            size = Math.max(0, Math.min(people.size, MOST_SPOKE));
            System.arraycopy(people.places, 0, speakers, 0, size);
            thing = 0;
            ways = 0;
            canBeFirst = 0;
        }

        int countWays(Line row) {
            firstsMatter = true;
            goThrough(0);
            if (ways > 0) {
                row.makeOf(firstWords, size);
            }
            return ways;
        }

        int firstsOf(int w) {
            firstsMatter = false;
            thing = w;
            goThrough(0);
            return canBeFirst;
        }

        private void goThrough(int i) {
            if (i >= size) {
                noteIfAsNow();
                return;
            }
            for (int w = 0; w < town.things; w++) {
                int outcome = tried.wish(town, speakers[i], w);
                words[i] = w;
                if (canBecomeAsNow(w)) {
                    goThrough(i + 1);
                }
                tried.takeBack(w, outcome);
            }
        }

        /** A FIRST, and what is GRANTED, never changes later: what is unlike now stays so. */
        private boolean canBecomeAsNow(int w) {
            if (firstsMatter && tried.first[w] != now.first[w]) {
                return false;
            }
            return tried.owner[w] == NONE || tried.owner[w] == now.owner[w];
        }

        private void noteIfAsNow() {
            for (int w = 0; w < town.things; w++) {
                boolean firstDiffers = firstsMatter && tried.first[w] != now.first[w];
                if (firstDiffers || tried.owner[w] != now.owner[w]) {
                    return;
                }
            }
            if (ways == 0) {
                System.arraycopy(words, 0, firstWords, 0, size);
            }
            ways++;
            if (tried.first[thing] != NONE) {
                canBeFirst |= 1 << tried.first[thing];
            }
        }
    }

    /** Who should have what: the most WORTH from each one on, by the THINGS that are left. */
    private static final class Giving {
        private final int[][] most = new int[MOST + 1][1 << MOST];

        int giveOut(Town town, Day day, Line row) {
            fillFromLast(town, day);
            int left = 0;
            for (int w = 0; w < town.things; w++) {
                if (day.owner[w] == NONE) {
                    left |= 1 << w;
                }
            }
            int all = most[0][left];
            row.makeAnew(town.people, NONE);
            for (int x = 0; x < row.size; x++) {
                int w = firstOfMost(town, day, x, left);
                row.places[x] = w;
                if (w != NONE) {
                    left &= ~(1 << w);
                }
            }
            return all;
        }

        private void fillFromLast(Town town, Day day) {
            Arrays.fill(most[town.people], 0);
            for (int x = town.people - 1; x >= 0; x--) {
                for (int left = 0; left < 1 << town.things; left++) {
                    int best = most[x + 1][left];
                    for (int w = 0; w < town.things; w++) {
                        if ((left >> w & 1) != 0) {
                            best = Math.max(best, withThing(day, x, left, w));
                        }
                    }
                    most[x][left] = best;
                }
            }
        }

        private int withThing(Day day, int x, int left, int w) {
            return day.worth[x][w] + most[x + 1][left & ~(1 << w)];
        }

        private int firstOfMost(Town town, Day day, int x, int left) {
            for (int w = 0; w < town.things; w++) {
                if ((left >> w & 1) != 0 && withThing(day, x, left, w) == most[x][left]) {
                    return w;
                }
            }
            return NONE;
        }
    }

    /** Counts the rounds of UNDOINGS. */
    private static final class Circle {
        private final int[] undoes = new int[MOST];
        int within = 0;

        int all(Town town) {
            System.arraycopy(town.undoes, 0, undoes, 0, MOST);
            within = 0;
            int found = 0;
            for (int w = 0; w < town.things; w++) {
                found += closeFrom(w, w, 1 << w);
            }
            return found;
        }

        /** Rounds that go on from a THING to the least one; only greater ones come between, so each is told once. */
        private int closeFrom(int least, int w, int seen) {
            int found = 0;
            for (int next = least; next < MOST; next++) {
                if ((undoes[w] >> next & 1) == 0) {
                    continue;
                }
                if (next == least) {
                    found++;
                    within |= seen;
                } else if ((seen >> next & 1) == 0) {
                    found += closeFrom(least, next, seen | 1 << next);
                }
            }
            return found;
        }
    }
}
