/**
 * A store that keeps words as pulses which go round in tubes; ../shared/DOC.md says what each call answers.
 *
 * What a call only tries goes on in a second Store, so that no call needs a new object for its answer.
 */
public final class TubeWords {
    public static final int BAD = -1, FULL = -2, FINDING = -3, STATE = -4, SPENT = -6, NONE = -9;

    private static final int NO_FINDING = 0, NOTHING = 1, BEYOND = 2, UNLIKE = 3, NOUGHT = 4, SIZE = 5;

    private static final int ROWS = 6, MOST_PLACES = 40;
    private static final int TEXTS = 4, MOST_BYTES = 60, BYTE_SHIFT = 1000, BLANK = 32;
    private static final int MISSING = -1;

    private static final int MOST_TUBES = 7, LEAST_TUBES = 2, MOST_WORD = 511;
    private static final int WEAK = 1, ECHO = 2, SLOW = 3, FLIP = 4, DULL = 5, KINDS = 6;
    private static final byte[] LETTERS = {116, 119, 101, 115, 102, 100};
    private static final int FIGURE_0 = 48, FIGURE_2 = 50, FIGURE_9 = 57;
    private static final int LETTER_PART = 0, LENGTH_PART = 1, MARK_PART = 2;
    private static final int KIND_FACT = 0, LENGTH_FACT = 1, MARK_FACT = 2, WORD_FACT = 3, WAY_FACT = 4,
            READY_FACT = 5, FACTS = 7;

    private static final int TICK_DEED = 0, SLOT_DEED = 1, WAYS_DEED = 2, WORD_DEED = 3, EMPTY_DEED = 4;
    private static final int MOST_DEEDS = 40, LAST_TICK = 99, PLACES_TO_KEEP = 3;

    private static final int AHEAD = 60, ROUND_AHEAD = 120, BEST_AHEAD = 40, CHANCE_AHEAD = 20, DUEL_AHEAD = 8;
    private static final int MOST_HEARD = 20, LOOKS = 20, MOST_PATTERN = 8;
    private static final int MOST_TURNS = 3, MOST_LEFT = 63, TWELFTHS = 12, FOR_MEAN = -1;
    private static final int MOST_LOTS = 20;
    private static final long LOT_FACTOR = 48271, LOT_MODULUS = 2147483647;
    private static final int COUNTS = 11, FINDINGS = 5, EUCLID_STEPS = 200;

    private final int[][] rows = new int[ROWS][MOST_PLACES];
    private final int[] rowSizes = {MISSING, MISSING, MISSING, MISSING, MISSING, MISSING};
    private final byte[][] texts = new byte[TEXTS][MOST_BYTES];
    private final int[] textSizes = {MISSING, MISSING, MISSING, MISSING};
    private final Store now = new Store();
    private final Store aside = new Store();
    private final int[] deeds = new int[MOST_DEEDS];
    private int deedCount = 0;
    private final int[][] keptDeeds = new int[PLACES_TO_KEEP][MOST_DEEDS];
    private final int[] keptSizes = {MISSING, MISSING, MISSING};
    private final int[][] looks = new int[KINDS][LOOKS];
    private final int[] findingCounts = new int[FINDINGS + 1];
    private int latestFinding = NO_FINDING;
    private int told = 0;
    private long toldUpper = 0;
    private long toldLower = 1;

    public TubeWords() {
    }

    // ---- 1 rows, texts, stores

    public int row(int r, int n) {
        if (!isRow(r) || n > MOST_PLACES) {
            return BAD;
        }
        if (n < 0) {
            return refuse(SIZE);
        }
        makeRow(r, n);
        return n;
    }

    public int lay(int r, int i, int v) {
        if (!isRow(r)) {
            return BAD;
        }
        int finding = lookForPlace(i, rowSizes[r]);
        if (finding != NO_FINDING) {
            return refuse(finding);
        }
        told = rows[r][i];
        rows[r][i] = v;
        return 1;
    }

    public int at(int r, int i) {
        if (!isRow(r)) {
            return BAD;
        }
        int finding = lookForPlace(i, rowSizes[r]);
        if (finding != NO_FINDING) {
            return refuse(finding);
        }
        told = rows[r][i];
        return 1;
    }

    public int tear(int r) {
        if (!isRow(r)) {
            return BAD;
        }
        if (rowSizes[r] == MISSING) {
            return refuse(NOTHING);
        }
        rowSizes[r] = MISSING;
        return 1;
    }

    public int copy(int r, int i, int to, int j, int n) {
        if (!isRow(r) || !isRow(to)) {
            return BAD;
        }
        if (n < 0) {
            return refuse(SIZE);
        }
        if (rowSizes[r] == MISSING || rowSizes[to] == MISSING) {
            return refuse(NOTHING);
        }
        if (!hasPlaces(i, n, rowSizes[r]) || !hasPlaces(j, n, rowSizes[to])) {
            return refuse(BEYOND);
        }
        System.arraycopy(rows[r], i, rows[to], j, n);
        return 1;
    }

    public int mean(int r) {
        if (!isRow(r)) {
            return BAD;
        }
        int size = rowSizes[r];
        if (size == MISSING) {
            return refuse(NOTHING);
        }
        if (size == 0) {
            return refuse(NOUGHT);
        }
        long sum = 0;
        for (int i = 0; i < size; i++) {
            sum += rows[r][i];
        }
        told = (int) (sum / size);
        return 1;
    }

    public int text(int t, int n) {
        if (!isText(t) || n > MOST_BYTES) {
            return BAD;
        }
        if (n < 0) {
            return refuse(SIZE);
        }
        for (int i = 0; i < n; i++) {
            texts[t][i] = (byte) BLANK;
        }
        textSizes[t] = n;
        return n;
    }

    public int put(int t, int i, int v) {
        if (!isText(t)) {
            return BAD;
        }
        int finding = lookForPlace(i, textSizes[t]);
        if (finding != NO_FINDING) {
            return refuse(finding);
        }
        int was = texts[t][i];
        texts[t][i] = (byte) v;
        return was + BYTE_SHIFT;
    }

    public int fault(int t) {
        if (!isText(t)) {
            return BAD;
        }
        if (textSizes[t] == MISSING) {
            return refuse(NOTHING);
        }
        return aside.read(texts[t], textSizes[t]);
    }

    public int store(int t) {
        if (!isText(t)) {
            return BAD;
        }
        if (textSizes[t] == MISSING) {
            return refuse(NOTHING);
        }
        if (aside.read(texts[t], textSizes[t]) != NONE) {
            return STATE;
        }
        aside.beginAnew();
        now.takeFrom(aside);
        deedCount = 0;
        for (int k = 0; k < PLACES_TO_KEEP; k++) {
            keptSizes[k] = MISSING;
        }
        return now.size;
    }

    public int tube(int i, int what) {
        if (!now.has(i) || !isWithin(what, 0, FACTS - 1)) {
            return BAD;
        }
        told = now.fact(i, what);
        return 1;
    }

    public int mark(int i, int kind) {
        if (!now.has(i) || !isWithin(kind, WEAK, DULL)) {
            return BAD;
        }
        if (!now.isOf(i, kind)) {
            return refuse(UNLIKE);
        }
        return now.tells(i, kind);
    }

    // ---- 2 deeds

    public int tick() {
        if (now.size == 0 || now.time >= LAST_TICK) {
            return STATE;
        }
        if (!hasRoomFor(1)) {
            return FULL;
        }
        addDeed(TICK_DEED, 0, 0);
        return now.pulses();
    }

    public int set(int i, int slot) {
        if (!now.has(i) || !isWithin(slot, 0, now.length[i] - 1)) {
            return BAD;
        }
        if (!hasRoomFor(1)) {
            return FULL;
        }
        addDeed(SLOT_DEED, i, slot);
        return now.word[i];
    }

    public int swap(int i, int j) {
        if (!now.has(i) || !now.has(j) || i == j) {
            return BAD;
        }
        if (!hasRoomFor(1)) {
            return FULL;
        }
        addDeed(WAYS_DEED, i, j);
        return now.way[i];
    }

    public int word(int i, int v) {
        if (!now.has(i) || !now.canHave(i, v)) {
            return BAD;
        }
        int had = now.word[i];
        if (had == v) {
            return STATE;
        }
        if (!hasRoomFor(1)) {
            return FULL;
        }
        addDeed(WORD_DEED, i, v);
        return had;
    }

    public int undo(int n) {
        if (!isWithin(n, 0, deedCount)) {
            return BAD;
        }
        int undone = deedCount - n;
        deedCount = n;
        doAgain();
        return undone;
    }

    public int keep(int k) {
        if (!isPlaceToKeep(k)) {
            return BAD;
        }
        if (now.size == 0) {
            return STATE;
        }
        System.arraycopy(deeds, 0, keptDeeds[k], 0, MOST_DEEDS);
        keptSizes[k] = deedCount;
        return deedCount;
    }

    public int on(int k) {
        if (!isPlaceToKeep(k)) {
            return BAD;
        }
        if (keptSizes[k] == MISSING) {
            return refuse(NOTHING);
        }
        System.arraycopy(keptDeeds[k], 0, deeds, 0, MOST_DEEDS);
        deedCount = keptSizes[k];
        doAgain();
        return deedCount;
    }

    // ---- 3 what comes

    public int later(int i, int n) {
        if (!now.has(i) || !isWithin(n, 0, AHEAD)) {
            return BAD;
        }
        aside.takeFrom(now);
        aside.goOn(n);
        told = aside.pulses();
        return aside.word[i];
    }

    public int hears(int i, int n, int r) {
        if (!now.has(i) || !isWithin(n, 1, MOST_HEARD) || !isRow(r)) {
            return BAD;
        }
        makeRow(r, n);
        aside.takeFrom(now);
        int pulses = 0;
        for (int t = 0; t < n; t++) {
            rows[r][t] = aside.isReady(i) ? aside.comesOut(i) : -1;
            pulses += aside.comesOut(i);
            aside.goOn(1);
        }
        return pulses;
    }

    public int finds(int i, int v, int n) {
        if (!now.has(i) || !isWithin(n, 1, MOST_PATTERN) || !isWithin(v, 0, (1 << n) - 1)) {
            return BAD;
        }
        aside.takeFrom(now);
        int heard = 0;
        int pulses = 0;
        int latest = 0;
        for (int t = 1; t <= AHEAD; t++) {
            if (aside.isReady(i)) {
                int out = aside.comesOut(i);
                latest = latest >> 1 | out << n - 1;
                heard++;
                pulses += out;
                if (heard >= n && latest == v) {
                    told = pulses;
                    return t;
                }
            }
            aside.goOn(1);
        }
        return NONE;
    }

    public int round() {
        if (now.size == 0) {
            return STATE;
        }
        aside.takeFrom(now);
        int fewest = aside.pulses();
        for (int t = 1; t <= ROUND_AHEAD; t++) {
            aside.goOn(1);
            fewest = Math.min(fewest, aside.pulses());
            if (aside.hasWordsOf(now)) {
                told = fewest;
                return t;
            }
        }
        return NONE;
    }

    public int left(int n) {
        if (!isWithin(n, 0, AHEAD)) {
            return BAD;
        }
        if (now.size == 0) {
            return STATE;
        }
        aside.takeFrom(now);
        aside.goOn(n);
        told = Integer.bitCount(aside.emptyOnes());
        return aside.pulses();
    }

    // ---- 4 what to do

    public int best(int n) {
        if (!isWithin(n, 1, BEST_AHEAD)) {
            return BAD;
        }
        if (now.size == 0) {
            return STATE;
        }
        aside.takeFrom(now);
        aside.goOn(n);
        int most = aside.pulses();
        int pair = NONE;
        for (int i = 0; i < now.size; i++) {
            for (int j = i + 1; j < now.size; j++) {
                aside.takeFrom(now);
                aside.swapWays(i, j);
                aside.goOn(n);
                if (aside.pulses() > most) {
                    most = aside.pulses();
                    pair = 10 * i + j;
                }
            }
        }
        if (pair != NONE) {
            told = most;
        }
        return pair;
    }

    public int safest(int v) {
        if (!isWithin(v, 0, MOST_WORD)) {
            return BAD;
        }
        if (now.size == 0) {
            return STATE;
        }
        int soonest = AHEAD + 1;
        int safe = NONE;
        for (int i = 0; i < now.size; i++) {
            int back = now.canHave(i, v) ? comesBack(i, v) : AHEAD + 1;
            if (back < soonest) {
                soonest = back;
                safe = i;
            }
        }
        if (safe != NONE) {
            told = soonest;
        }
        return safe;
    }

    // ---- 5 which tube, which word it was

    public int kinds(int i, int r) {
        if (!now.has(i) || !isRow(r)) {
            return BAD;
        }
        int finding = lookThroughHeard(r);
        return finding != NO_FINDING ? refuse(finding) : kindsHeard(i, r);
    }

    public int words(int i, int r) {
        if (!now.has(i) || !isRow(r)) {
            return BAD;
        }
        int finding = lookThroughHeard(r);
        if (finding != NO_FINDING) {
            return refuse(finding);
        }
        int least = 0;
        int many = 0;
        for (int v = 0; v <= MOST_WORD && now.canHave(i, v); v++) {
            aside.takeFrom(now);
            aside.word[i] = v;
            if (isHeard(i, r)) {
                least = many == 0 ? v : least;
                many++;
            }
        }
        if (many == 0) {
            return NONE;
        }
        told = least;
        return many;
    }

    public int test(int i, int r) {
        if (!now.has(i) || !isRow(r)) {
            return BAD;
        }
        int finding = lookThroughHeard(r);
        if (finding != NO_FINDING) {
            return refuse(finding);
        }
        int set = kindsHeard(i, r);
        if (set == 0) {
            return NONE;
        }
        lookAhead(i);
        int least = KINDS + 1;
        int behind = NONE;
        for (int t = 0; t < LOOKS; t++) {
            int part = greatestPart(set, t);
            if (part < least) {
                least = part;
                behind = t + 1;
            }
        }
        told = least;
        return behind;
    }

    // ---- 6 by turns

    public int duel(int n) {
        if (!isWithin(n, 0, MOST_TURNS)) {
            return BAD;
        }
        if (now.size == 0) {
            return STATE;
        }
        return playOut(now.ends(), 0, n);
    }

    // ---- 7 chances, lots

    public int odds(int k, int n, int p) {
        if (!isWithin(k, 0, MOST_LEFT) || !isWithin(n, 0, CHANCE_AHEAD) || !isWithin(p, 0, TWELFTHS)) {
            return BAD;
        }
        if (now.size == 0) {
            return STATE;
        }
        tellChance(k, n, p);
        return 1;
    }

    public int mid(int n, int p) {
        if (!isWithin(n, 0, CHANCE_AHEAD) || !isWithin(p, 0, TWELFTHS)) {
            return BAD;
        }
        if (now.size == 0) {
            return STATE;
        }
        tellChance(FOR_MEAN, n, p);
        return 1;
    }

    public int lots(int n, int seed) {
        if (!isWithin(n, 1, MOST_LOTS) || seed < 1 || seed >= LOT_MODULUS) {
            return BAD;
        }
        if (now.size == 0) {
            return STATE;
        }
        if (!hasRoomFor(n)) {
            return FULL;
        }
        long lot = seed;
        for (int d = 0; d < n; d++) {
            lot = lot * LOT_FACTOR % LOT_MODULUS;
            doByLot((int) lot);
        }
        return now.pulses();
    }

    // ---- 8 what is told

    public int asked() {
        return told;
    }

    public long upper() {
        return toldUpper;
    }

    public long lower() {
        return toldLower;
    }

    public int count(int what) {
        return isWithin(what, 0, COUNTS - 1) ? countOf(what) : BAD;
    }

    public int finding() {
        return latestFinding;
    }

    public int findings(int f) {
        return isWithin(f, 1, FINDINGS) ? findingCounts[f] : BAD;
    }

    public long digest() {
        long h = 17;
        for (int what = 0; what < COUNTS; what++) {
            h = 31 * h + countOf(what);
        }
        for (int i = 0; i < now.size; i++) {
            for (int what = 0; what < FACTS; what++) {
                h = 31 * h + now.fact(i, what);
            }
        }
        for (int k = 0; k < PLACES_TO_KEEP; k++) {
            h = 31 * h + keptSizes[k];
        }
        for (int r = 0; r < ROWS; r++) {
            h = 31 * h + rowSizes[r];
            for (int i = 0; i < rowSizes[r]; i++) {
                h = 31 * h + rows[r][i];
            }
        }
        for (int t = 0; t < TEXTS; t++) {
            h = 31 * h + textSizes[t];
            for (int i = 0; i < textSizes[t]; i++) {
                h = 31 * h + texts[t][i];
            }
        }
        return h;
    }

    // ---- what is refused

    private int refuse(int finding) {
        if (isWithin(finding, 1, FINDINGS)) {
            latestFinding = finding;
            findingCounts[finding]++;
        }
        return FINDING;
    }

    private static boolean isWithin(int v, int least, int most) {
        return v >= least && v <= most;
    }

    private static boolean isRow(int r) {
        return isWithin(r, 0, ROWS - 1);
    }

    private static boolean isText(int t) {
        return isWithin(t, 0, TEXTS - 1);
    }

    private static boolean isPlaceToKeep(int k) {
        return isWithin(k, 0, PLACES_TO_KEEP - 1);
    }

    private static int lookForPlace(int i, int size) {
        if (size == MISSING) {
            return NOTHING;
        }
        return i < 0 || i >= size ? BEYOND : NO_FINDING;
    }

    private static boolean hasPlaces(int i, int n, int size) {
        // size - n can't overflow, as i + n could
        return i >= 0 && i <= size - n;
    }

    private int lookThroughHeard(int r) {
        int size = rowSizes[r];
        if (size == MISSING) {
            return NOTHING;
        }
        if (!isWithin(size, 1, MOST_HEARD)) {
            return SIZE;
        }
        for (int i = 0; i < size; i++) {
            if (!isWithin(rows[r][i], 0, 1)) {
                return UNLIKE;
            }
        }
        return NO_FINDING;
    }

    private void makeRow(int r, int n) {
        for (int i = 0; i < n; i++) {
            rows[r][i] = 0;
        }
        rowSizes[r] = n;
    }

    // ---- deeds

    private boolean hasRoomFor(int n) {
        return deedCount + n <= MOST_DEEDS;
    }

    private void addDeed(int what, int i, int v) {
        if (!hasRoomFor(1)) {
            return;
        }
        // a TUBE needs 3 bits, a WORD 9
        int deed = what << 12 | i << 9 | v;
        deeds[deedCount] = deed;
        deedCount++;
        perform(deed);
    }

    private void perform(int deed) {
        int i = deed >> 9 & 7;
        int v = deed & MOST_WORD;
        switch (deed >> 12) {
            case TICK_DEED:
                now.letPass();
                break;
            case SLOT_DEED:
                now.turnSlot(i, v);
                break;
            case WAYS_DEED:
                now.swapWays(i, v);
                break;
            case WORD_DEED:
                now.putWord(i, v);
                break;
            default:
                break;
        }
    }

    // The STORE is always what its DEEDS make of its beginning, so that the DEEDS alone need to be kept.
    private void doAgain() {
        now.beginAnew();
        for (int d = 0; d < deedCount; d++) {
            perform(deeds[d]);
        }
    }

    private void doByLot(int lot) {
        if (now.size <= 0) {
            return;
        }
        int i = lot / 8 % now.size;
        int length = now.length[i];
        switch (lot % 8) {
            case 0:
                addDeed(WAYS_DEED, i, (i + 1) % now.size);
                break;
            case 1:
            case 2:
            case 3:
                addDeed(SLOT_DEED, i, length > 0 ? lot / 64 % length : 0);
                break;
            default:
                addDeed(now.time < LAST_TICK ? TICK_DEED : EMPTY_DEED, 0, 0);
                break;
        }
    }

    // ---- what is tried aside

    private int comesBack(int i, int v) {
        aside.takeFrom(now);
        aside.putWord(i, v);
        for (int t = 1; t <= AHEAD; t++) {
            aside.goOn(1);
            if (aside.word[i] == v) {
                return t;
            }
        }
        return AHEAD + 1;
    }

    private boolean isHeard(int i, int r) {
        int size = rowSizes[r];
        int heard = 0;
        for (int t = 0; t < AHEAD && heard < size; t++) {
            if (aside.isReady(i)) {
                if (aside.comesOut(i) != rows[r][heard]) {
                    return false;
                }
                heard++;
            }
            aside.goOn(1);
        }
        return heard == size;
    }

    private int kindsHeard(int i, int r) {
        int set = 0;
        for (int kind = 0; kind < KINDS; kind++) {
            aside.takeFrom(now);
            aside.kind[i] = kind;
            if (isHeard(i, r)) {
                set |= 1 << kind;
            }
        }
        return set;
    }

    private void lookAhead(int i) {
        for (int kind = 0; kind < KINDS; kind++) {
            aside.takeFrom(now);
            aside.kind[i] = kind;
            for (int t = 0; t < LOOKS; t++) {
                aside.goOn(1);
                looks[kind][t] = aside.word[i];
            }
        }
    }

    private int greatestPart(int set, int t) {
        int greatest = 0;
        for (int a = 0; a < KINDS; a++) {
            int part = 0;
            for (int b = 0; b < KINDS; b++) {
                if ((set >> a & set >> b & 1) == 1 && looks[a][t] == looks[b][t]) {
                    part++;
                }
            }
            greatest = Math.max(greatest, part);
        }
        return greatest;
    }

    // Only SLOTS 0 change by turns, so a set of TUBES (those with a PULSE there) is all that the turns need.
    private int playOut(int ends, int turn, int turns) {
        if (turn >= turns || turn >= MOST_TURNS) {
            return leftWithEnds(ends);
        }
        boolean gives = turn % 2 == 0;
        int value = playOut(ends, turn + 1, turns);
        for (int i = 0; i < now.size; i++) {
            int next = gives ? ends | 1 << i : ends & ~(1 << i);
            if (next != ends) {
                int other = playOut(next, turn + 1, turns);
                value = gives ? Math.max(value, other) : Math.min(value, other);
            }
        }
        return value;
    }

    private int leftWithEnds(int ends) {
        aside.takeFrom(now);
        aside.putEnds(ends);
        aside.goOn(DUEL_AHEAD);
        return aside.pulses();
    }

    private void tellChance(int k, int n, int p) {
        long sum = 0;
        for (int failed = 0; failed < 1 << now.size; failed++) {
            long weight = weightOf(failed, p);
            if (weight > 0) {
                int left = leftWithout(failed, n);
                int worth = left >= k ? 1 : 0;
                sum += weight * (k == FOR_MEAN ? left : worth);
            }
        }
        long whole = 1;
        for (int i = 0; i < now.size; i++) {
            whole *= TWELFTHS;
        }
        tellLowest(sum, whole);
    }

    private long weightOf(int failed, int p) {
        long weight = 1;
        for (int i = 0; i < now.size; i++) {
            weight *= (failed >> i & 1) == 1 ? p : TWELFTHS - p;
        }
        return weight;
    }

    private int leftWithout(int failed, int n) {
        aside.takeFrom(now);
        aside.empty(failed);
        aside.goOn(n);
        return aside.pulses();
    }

    private void tellLowest(long part, long whole) {
        long a = whole;
        long b = part;
        for (int step = 0; step < EUCLID_STEPS && b != 0; step++) {
            long rest = a % b;
            a = b;
            b = rest;
        }
        toldUpper = a > 0 ? part / a : part;
        toldLower = a > 0 ? whole / a : whole;
    }

    // ---- what is counted

    private int countOf(int what) {
        switch (what) {
            case 0:
                return now.size;
            case 1:
                return now.time;
            case 2:
                return deedCount;
            case 3:
                return now.pulses();
            case 4:
                return now.slots();
            case 5:
                return now.emptyOnes();
            case 6:
                return present(rowSizes);
            case 7:
                return present(textSizes);
            case 8:
                return present(keptSizes);
            case 9:
                return now.manyOf(WEAK);
            default:
                return now.manyOf(ECHO);
        }
    }

    private static int present(int[] sizes) {
        int there = 0;
        for (int size : sizes) {
            if (size != MISSING) {
                there++;
            }
        }
        return there;
    }

    /** TUBES with what is in them and the WAYS between them, in one TICK. */
    private static final class Store {
        private final int[] kind = new int[MOST_TUBES];
        private final int[] length = new int[MOST_TUBES];
        private final int[] mark = new int[MOST_TUBES];
        private final int[] word = new int[MOST_TUBES];
        private final int[] way = new int[MOST_TUBES];
        private final int[] came = new int[MOST_TUBES];
        private int size = 0;
        private int time = 0;

        private boolean has(int i) {
            return i >= 0 && i < size;
        }

        private boolean canHave(int i, int v) {
            return v >= 0 && v < 1 << length[i];
        }

        // Answers the FAULT of a TEXT; the TUBES are good only if that is NONE.
        private int read(byte[] text, int end) {
            size = 0;
            int part = LETTER_PART;
            for (int place = 0; place < end && place < text.length; place++) {
                int sign = text[place];
                if (part == LETTER_PART && sign == BLANK) {
                    continue;
                }
                if (size == MOST_TUBES || !takeSign(sign, part)) {
                    return place;
                }
                if (part == MARK_PART) {
                    size++;
                }
                part = part == MARK_PART ? LETTER_PART : part + 1;
            }
            return part == LETTER_PART && size >= LEAST_TUBES ? NONE : end;
        }

        private boolean takeSign(int sign, int part) {
            if (part == LETTER_PART) {
                int of = kindOf(sign);
                kind[size] = of;
                return of != MISSING;
            }
            int least = part == LENGTH_PART ? FIGURE_2 : FIGURE_0;
            if (part == LENGTH_PART) {
                length[size] = sign - FIGURE_0;
            } else {
                mark[size] = sign - FIGURE_0;
            }
            return sign >= least && sign <= FIGURE_9;
        }

        private static int kindOf(int sign) {
            for (int of = 0; of < LETTERS.length; of++) {
                if (LETTERS[of] == sign) {
                    return of;
                }
            }
            return MISSING;
        }

        private void beginAnew() {
            for (int i = 0; i < MOST_TUBES; i++) {
                word[i] = 0;
                way[i] = i;
            }
            time = 0;
        }

        private void takeFrom(Store other) {
            System.arraycopy(other.kind, 0, kind, 0, MOST_TUBES);
            System.arraycopy(other.length, 0, length, 0, MOST_TUBES);
            System.arraycopy(other.mark, 0, mark, 0, MOST_TUBES);
            System.arraycopy(other.word, 0, word, 0, MOST_TUBES);
            System.arraycopy(other.way, 0, way, 0, MOST_TUBES);
            size = other.size;
            time = other.time;
        }

        // ---- what is done

        private void goOn(int ticks) {
            for (int t = 0; t < ticks; t++) {
                letPass();
            }
        }

        private void letPass() {
            for (int i = 0; i < size; i++) {
                int to = way[i];
                if (has(to)) {
                    came[to] = comesOut(i);
                }
            }
            for (int i = 0; i < size; i++) {
                if (isReady(i)) {
                    word[i] = word[i] >> 1 | sentAs(kind[i], i, came[i]) << length[i] - 1;
                }
            }
            time++;
        }

        private void turnSlot(int i, int slot) {
            if (has(i)) {
                word[i] ^= 1 << slot;
            }
        }

        private void swapWays(int i, int j) {
            if (has(i) && has(j)) {
                int led = way[i];
                way[i] = way[j];
                way[j] = led;
            }
        }

        private void putWord(int i, int v) {
            if (has(i)) {
                word[i] = v;
            }
        }

        private void putEnds(int set) {
            for (int i = 0; i < size; i++) {
                word[i] = word[i] & ~1 | set >> i & 1;
            }
        }

        private void empty(int set) {
            for (int i = 0; i < size; i++) {
                if ((set >> i & 1) == 1) {
                    word[i] = 0;
                }
            }
        }

        // ---- what a TUBE is, and does in this TICK

        private boolean isOf(int i, int of) {
            int is = kind[i];
            return is == of || of == WEAK && is == FLIP || of == ECHO && is == DULL;
        }

        private boolean isReady(int i) {
            return kind[i] != SLOW || time % 2 == 0;
        }

        private int comesOut(int i) {
            return isReady(i) ? word[i] & 1 : 0;
        }

        private int cameTo(int i) {
            for (int j = 0; j < size; j++) {
                if (way[j] == i) {
                    return comesOut(j);
                }
            }
            return 0;
        }

        private int ticksTillStruck(int i) {
            int every = mark[i] + 2;
            return every > 0 ? (every - time % every) % every : 0;
        }

        private int sentAs(int of, int i, int in) {
            boolean last = (word[i] >> length[i] - 1 & 1) == 1;
            boolean struck = ticksTillStruck(i) == 0;
            switch (of) {
                case WEAK:
                    return struck ? 0 : in;
                case ECHO:
                    return last && struck ? 1 : in;
                case FLIP:
                    return struck ? 1 - in : in;
                case DULL:
                    if (!last) {
                        return time % 3 == 0 ? 0 : in;
                    }
                    return struck ? 1 : in;
                default:
                    return in;
            }
        }

        private int tells(int i, int of) {
            int in = cameTo(i);
            switch (of) {
                case WEAK:
                    return ticksTillStruck(i);
                case ECHO:
                    return sentAs(kind[i], i, 1) == sentAs(kind[i], i, 0) ? 1 : 0;
                case SLOW:
                    return 2 * length[i];
                case FLIP:
                    return sentAs(FLIP, i, in) != sentAs(WEAK, i, in) ? 1 : 0;
                default:
                    return sentAs(DULL, i, in) != sentAs(ECHO, i, in) ? 1 : 0;
            }
        }

        private int fact(int i, int what) {
            switch (what) {
                case KIND_FACT:
                    return kind[i];
                case LENGTH_FACT:
                    return length[i];
                case MARK_FACT:
                    return mark[i];
                case WORD_FACT:
                    return word[i];
                case WAY_FACT:
                    return way[i];
                case READY_FACT:
                    return isReady(i) ? 1 : 0;
                default:
                    return sentAs(kind[i], i, cameTo(i));
            }
        }

        // ---- what all TUBES have

        private int pulses() {
            int many = 0;
            for (int i = 0; i < size; i++) {
                many += Integer.bitCount(word[i]);
            }
            return many;
        }

        private int slots() {
            int many = 0;
            for (int i = 0; i < size; i++) {
                many += length[i];
            }
            return many;
        }

        private int emptyOnes() {
            int set = 0;
            for (int i = 0; i < size; i++) {
                if (word[i] == 0) {
                    set |= 1 << i;
                }
            }
            return set;
        }

        private int ends() {
            int set = 0;
            for (int i = 0; i < size; i++) {
                set |= (word[i] & 1) << i;
            }
            return set;
        }

        private int manyOf(int of) {
            int many = 0;
            for (int i = 0; i < size; i++) {
                if (isOf(i, of)) {
                    many++;
                }
            }
            return many;
        }

        private boolean hasWordsOf(Store other) {
            for (int i = 0; i < size; i++) {
                if (word[i] != other.word[i]) {
                    return false;
                }
            }
            return true;
        }
    }
}
