import java.util.Arrays;

/** Letters carried only by who can't read them. DOC.md has the promises, by the names of the calls. */
public final class BlindPost {
    public static final int BAD = -1, FULL = -2, FINDING = -3, STATE = -4, SPENT = -6, NONE = -9;

    private static final int NOTHING = 1, BEYOND = 2, UNLIKE = 3, NOUGHT = 4, SIZE = 5;

    private static final int ROWS = 6, MOST_INTS = 40, TEXTS = 4, MOST_BYTES = 80, BLANK = 32;
    private static final int MOST_HANDS = 7, MOST_MEETINGS = 16, MOST_LETTERS = 4, LANDS = 3;
    private static final int TONGUES = 5, ALL_TONGUES = 31;
    private static final int ROUND = 8, LAST_HOUR = 99, MOST_HOURS = 20, MOST_WAIT = 40, MOST_DAYS = 60;
    private static final int LOT_FACTOR = 48271, LOT_PRIME = 2147483647;

    private static final int HAND = 0, CHILD = 1, SCHOLAR = 2, LEARNER = 3, MUTE = 4, SPY = 5, KINDS = 6;

    private final Sheet[] rows = new Sheet[ROWS];
    private final Sheet[] texts = new Sheet[TEXTS];
    private final Land land = new Land();
    private final Land drawn = new Land();
    private final Land[] kept = new Land[LANDS];
    private final boolean[] isKept = new boolean[LANDS];
    private final Reading reading = new Reading(drawn);
    private final Ways ways = new Ways(land);
    private final Pairs pairs = new Pairs(land, ways);
    private final int[] timesFound = new int[SIZE + 1];
    private int lastFound = 0;
    private int told = 0;

    public BlindPost() {
        for (int r = 0; r < ROWS; r++) {
            rows[r] = new Sheet(MOST_INTS);
        }
        for (int t = 0; t < TEXTS; t++) {
            texts[t] = new Sheet(MOST_BYTES);
        }
        for (int k = 0; k < LANDS; k++) {
            kept[k] = new Land();
        }
    }

    // ---- 1 rows, texts, lands

    public int row(int r, int n) {
        if (noRow(r) || n > MOST_INTS) {
            return BAD;
        }
        if (n < 0) {
            return found(SIZE);
        }
        rows[r].renew(n, 0);
        return n;
    }

    public int lay(int r, int i, int v) {
        if (noRow(r)) {
            return BAD;
        }
        int missing = rows[r].lackAt(i);
        if (missing != 0) {
            return found(missing);
        }
        int was = rows[r].places[i];
        rows[r].places[i] = v;
        return tell(was);
    }

    public int at(int r, int i) {
        if (noRow(r)) {
            return BAD;
        }
        int missing = rows[r].lackAt(i);
        if (missing != 0) {
            return found(missing);
        }
        return tell(rows[r].places[i]);
    }

    public int tear(int r) {
        if (noRow(r)) {
            return BAD;
        }
        if (!rows[r].isThere()) {
            return found(NOTHING);
        }
        rows[r].size = Sheet.MISSING;
        return 1;
    }

    public int copy(int r, int i, int to, int j, int n) {
        if (noRow(r) || noRow(to)) {
            return BAD;
        }
        if (n < 0) {
            return found(SIZE);
        }
        if (!rows[r].isThere() || !rows[to].isThere()) {
            return found(NOTHING);
        }
        if (!rows[r].spans(i, n) || !rows[to].spans(j, n)) {
            return found(BEYOND);
        }
        System.arraycopy(rows[r].places, i, rows[to].places, j, n);
        return 1;
    }

    public int mean(int r) {
        if (noRow(r)) {
            return BAD;
        }
        Sheet row = rows[r];
        if (!row.isThere()) {
            return found(NOTHING);
        }
        if (row.size == 0) {
            return found(NOUGHT);
        }
        return tell((int) (row.sum() / row.size));
    }

    public int text(int t, int n) {
        if (noText(t) || n > MOST_BYTES) {
            return BAD;
        }
        if (n < 0) {
            return found(SIZE);
        }
        texts[t].renew(n, BLANK);
        return n;
    }

    public int put(int t, int i, int v) {
        if (noText(t)) {
            return BAD;
        }
        int missing = texts[t].lackAt(i);
        if (missing != 0) {
            return found(missing);
        }
        int was = texts[t].places[i];
        texts[t].places[i] = (byte) v;
        return was + 1000;
    }

    public int fault(int t) {
        if (noText(t)) {
            return BAD;
        }
        if (!texts[t].isThere()) {
            return found(NOTHING);
        }
        return reading.faultOf(texts[t]);
    }

    public int land(int t) {
        if (noText(t)) {
            return BAD;
        }
        if (!texts[t].isThere()) {
            return found(NOTHING);
        }
        if (reading.faultOf(texts[t]) != NONE) {
            return STATE;
        }
        land.takeFrom(drawn);
        for (int k = 0; k < LANDS; k++) {
            isKept[k] = false;
        }
        return land.handCount;
    }

    public int hand(int x, int what) {
        if (land.lacks(x) || what < 0 || what > 3) {
            return BAD;
        }
        return tell(land.factOf(x, what));
    }

    public int mark(int x, int kind) {
        if (land.lacks(x) || kind <= HAND || kind >= KINDS) {
            return BAD;
        }
        if (!isOf(land.kinds[x], kind)) {
            return found(UNLIKE);
        }
        return land.markOf(x, kind);
    }

    public int teach(int x, int tongue, int is) {
        if (land.lacks(x) || noTongue(tongue) || is < 0 || is > 1) {
            return BAD;
        }
        int was = land.known[x] >> tongue & 1;
        land.known[x] = is == 1 ? land.known[x] | bit(tongue) : land.known[x] & ~bit(tongue);
        return was;
    }

    public int meet(int x, int y, int hour) {
        if (noPair(x, y) || hour < 0 || hour >= ROUND) {
            return BAD;
        }
        if (land.meetingCount >= MOST_MEETINGS) {
            return FULL;
        }
        land.addMeeting(x, y, hour);
        return land.meetingCount - 1;
    }

    public int off(int n) {
        if (n < 0 || n > land.meetingCount) {
            return BAD;
        }
        int gone = land.meetingCount - n;
        land.meetingCount = n;
        land.tieAll();
        return gone;
    }

    public int may(int x, int tongues) {
        if (land.lacks(x) || noTongues(tongues)) {
            return BAD;
        }
        return land.carries(x, tongues) ? 1 : 0;
    }

    public int meets(int x, int hour) {
        if (land.lacks(x) || noHour(hour)) {
            return BAD;
        }
        return land.metIn[hour % ROUND][x];
    }

    // ---- 2 letters

    public int send(int x, int y, int tongues) {
        if (noPair(x, y) || noTongues(tongues)) {
            return BAD;
        }
        if ((land.known[x] & land.known[y] & tongues) != tongues) {
            return STATE;
        }
        if (land.letterCount >= MOST_LETTERS) {
            return FULL;
        }
        land.letters[land.letterCount].start(x, y, tongues, land.hour);
        land.letterCount++;
        return land.letterCount - 1;
    }

    public int give(int k, int x) {
        if (k < 0 || land.lacks(x)) {
            return BAD;
        }
        if (k >= land.letterCount) {
            return found(BEYOND);
        }
        if (!has(land.takers(land.letters[k]), x)) {
            return STATE;
        }
        return land.pass(land.letters[k], x) ? 1 : 0;
    }

    public int hours(int n) {
        if (n < 0 || n > MOST_HOURS) {
            return BAD;
        }
        if (land.hour + n > LAST_HOUR) {
            return FULL;
        }
        land.hour += n;
        return land.hour;
    }

    public int where(int k) {
        if (k < 0) {
            return BAD;
        }
        if (k >= land.letterCount) {
            return found(BEYOND);
        }
        told = land.letters[k].cameWhen();
        return land.letters[k].holder();
    }

    public int hands(int k, int r) {
        if (k < 0 || noRow(r)) {
            return BAD;
        }
        if (k >= land.letterCount) {
            return found(BEYOND);
        }
        rows[r].fill(land.letters[k].through, land.letters[k].length);
        return land.letters[k].length;
    }

    public int back(int k) {
        if (k < 0) {
            return BAD;
        }
        if (k >= land.letterCount) {
            return found(BEYOND);
        }
        if (land.letters[k].length < 2) {
            return STATE;
        }
        land.letters[k].length--;
        return land.letters[k].holder();
    }

    public int keep(int k) {
        if (noPlace(k)) {
            return BAD;
        }
        if (land.handCount == 0) {
            return STATE;
        }
        kept[k].takeFrom(land);
        isKept[k] = true;
        return land.hour;
    }

    public int on(int k) {
        if (noPlace(k)) {
            return BAD;
        }
        if (!isKept[k]) {
            return found(NOTHING);
        }
        land.takeFrom(kept[k]);
        return land.hour;
    }

    // ---- 3 how soon (nobody learning on the way)

    public int soon(int x, int y, int tongues, int hour) {
        if (noPair(x, y) || noTongues(tongues) || noHour(hour)) {
            return BAD;
        }
        return ways.soonest(x, y, tongues, hour);
    }

    public int way(int x, int y, int tongues, int r) {
        if (noPair(x, y) || noTongues(tongues) || noRow(r)) {
            return BAD;
        }
        ways.priceAsTheyAre(tongues);
        if (!ways.find(x, y)) {
            return NONE;
        }
        rows[r].fill(ways.through, ways.length);
        return ways.length - 2;
    }

    public int tongue(int x, int y, int hour) {
        if (noPair(x, y) || noHour(hour)) {
            return BAD;
        }
        int both = land.known[x] & land.known[y];
        int first = NONE;
        int least = LAST_HOUR + 1;
        for (int t = 0; t < TONGUES; t++) {
            int wait = has(both, t) ? ways.soonest(x, y, bit(t), hour) : NONE;
            if (wait != NONE && wait < least) {
                first = t;
                least = wait;
            }
        }
        if (first != NONE) {
            told = least;
        }
        return first;
    }

    public int parts(int x, int y, int tongues, int hour) {
        if (noPair(x, y) || noTongues(tongues) || noHour(hour)) {
            return BAD;
        }
        int longest = 0;
        for (int t = 0; t < TONGUES; t++) {
            int wait = has(tongues, t) ? ways.soonest(x, y, bit(t), hour) : 0;
            if (wait == NONE) {
                return NONE;
            }
            longest = Math.max(longest, wait);
        }
        return longest;
    }

    public int apart(int x, int y, int tongues) {
        if (noPair(x, y) || noTongues(tongues)) {
            return BAD;
        }
        return ways.mostApart(x, y, tongues);
    }

    public int needs(int x, int y, int tongues) {
        if (noPair(x, y) || noTongues(tongues)) {
            return BAD;
        }
        int open = ways.carriers(tongues);
        if (!has(ways.endsFrom(x, open), y)) {
            return 0;
        }
        int needed = 0;
        for (int v = 0; v < land.handCount; v++) {
            if (v != x && v != y && !has(ways.endsFrom(x, open & ~bit(v)), y)) {
                needed |= bit(v);
            }
        }
        return needed;
    }

    public int forget(int x, int y, int tongues) {
        if (noPair(x, y) || noTongues(tongues)) {
            return BAD;
        }
        ways.priceByForgetting(tongues);
        if (!ways.find(x, y)) {
            return NONE;
        }
        told = ways.whoPay();
        return ways.wholePrice();
    }

    // ---- 4 who reaches whom

    public int reach(int x, int tongue) {
        if (land.lacks(x) || noTongue(tongue)) {
            return BAD;
        }
        return pairs.reachedBy(x, tongue);
    }

    public int cutOff() {
        pairs.tally();
        told = pairs.all;
        return pairs.cut;
    }

    public int taught(int x, int tongue) {
        if (land.lacks(x) || noTongue(tongue)) {
            return BAD;
        }
        pairs.tally();
        int before = pairs.cut;
        return tell(pairs.cutIfKnown(x, tongue) - before);
    }

    public int best() {
        int first = NONE;
        int least = MOST_HANDS * MOST_HANDS;
        for (int x = 0; x < land.handCount; x++) {
            for (int t = 0; t < TONGUES; t++) {
                int cut = has(land.known[x], t) ? least : pairs.cutIfKnown(x, t);
                if (cut < least) {
                    first = 10 * x + t;
                    least = cut;
                }
            }
        }
        if (first != NONE) {
            told = least;
        }
        return first;
    }

    public int worth(int x) {
        if (land.lacks(x)) {
            return BAD;
        }
        return pairs.lostWithout(x);
    }

    public int fewest() {
        told = pairs.leastTongues();
        return Integer.bitCount(told);
    }

    // ---- 5 who reads

    public int reader(int r) {
        int refused = refusedPairs(r);
        if (refused != 0) {
            return refused;
        }
        int can = 0;
        for (int x = 0; x < land.handCount; x++) {
            if (readsSo(rows[r], bit(x))) {
                can |= bit(x);
            }
        }
        return can;
    }

    public int readers(int r) {
        int refused = refusedPairs(r);
        if (refused != 0) {
            return refused;
        }
        int can = 0;
        for (int x = 0; x < land.handCount; x++) {
            for (int y = x + 1; y < land.handCount; y++) {
                if (readsSo(rows[r], bit(x) | bit(y))) {
                    can++;
                }
            }
        }
        return can;
    }

    public int knows(int r) {
        if (noRow(r)) {
            return BAD;
        }
        Sheet row = rows[r];
        if (!row.isThere()) {
            return found(NOTHING);
        }
        int carried = 0;
        for (int i = 0; i < row.size; i++) {
            if (noTongues(row.places[i])) {
                return found(UNLIKE);
            }
            carried |= row.places[i];
        }
        told = ALL_TONGUES & ~carried;
        return 1 << Integer.bitCount(told);
    }

    // ---- 6 days

    public int days(int n, int seed) {
        if (n < 1 || n > MOST_DAYS || seed < 1 || seed >= LOT_PRIME) {
            return BAD;
        }
        if (land.handCount == 0) {
            return STATE;
        }
        if (land.hour + n > LAST_HOUR) {
            return FULL;
        }
        return land.goBy(n, seed);
    }

    // ---- 7 what is told

    public int asked() {
        return told;
    }

    public long upper() {
        pairs.tally();
        if (pairs.all == 0) {
            return 0;
        }
        return (pairs.all - pairs.cut) / commonDivisor(pairs.all, pairs.all - pairs.cut);
    }

    public long lower() {
        pairs.tally();
        if (pairs.all == 0) {
            return 1;
        }
        return pairs.all / commonDivisor(pairs.all, pairs.all - pairs.cut);
    }

    public int count(int what) {
        switch (what) {
            case 0: return land.handCount;
            case 1: return land.meetingCount;
            case 2: return land.hour;
            case 3: return land.letterCount;
            case 4: return land.lettersThere();
            case 5: return Integer.bitCount(land.ofKind(CHILD));
            case 6: return sheetsThere(rows);
            case 7: return sheetsThere(texts);
            case 8: return landsKept();
            default: return BAD;
        }
    }

    public int finding() {
        return lastFound;
    }

    public int findings(int f) {
        if (f < NOTHING || f > SIZE) {
            return BAD;
        }
        return timesFound[f];
    }

    public long digest() {
        long h = 17;
        for (int what = 0; what <= 8; what++) {
            h = 31 * h + count(what);
        }
        h = land.digestFrom(h);
        for (int k = 0; k < LANDS; k++) {
            h = 31 * h + (isKept[k] ? kept[k].hour : -1);
        }
        for (int r = 0; r < ROWS; r++) {
            h = rows[r].digestFrom(h);
        }
        for (int t = 0; t < TEXTS; t++) {
            h = texts[t].digestFrom(h);
        }
        return h;
    }

    // ---- what is refused, what is told

    private int found(int finding) {
        lastFound = finding;
        timesFound[finding]++;
        return FINDING;
    }

    private int tell(int value) {
        told = value;
        return 1;
    }

    private static boolean noRow(int r) {
        return r < 0 || r >= ROWS;
    }

    private static boolean noText(int t) {
        return t < 0 || t >= TEXTS;
    }

    private static boolean noPlace(int k) {
        return k < 0 || k >= LANDS;
    }

    private static boolean noTongue(int tongue) {
        return tongue < 0 || tongue >= TONGUES;
    }

    private static boolean noTongues(int tongues) {
        return tongues < 1 || tongues > ALL_TONGUES;
    }

    private static boolean noHour(int hour) {
        return hour < 0 || hour > LAST_HOUR;
    }

    private boolean noPair(int x, int y) {
        return land.lacks(x) || land.lacks(y) || x == y;
    }

    private int sheetsThere(Sheet[] sheets) {
        int there = 0;
        for (int i = 0; i < sheets.length; i++) {
            if (sheets[i].isThere()) {
                there++;
            }
        }
        return there;
    }

    private int landsKept() {
        int there = 0;
        for (int k = 0; k < LANDS; k++) {
            if (isKept[k]) {
                there++;
            }
        }
        return there;
    }

    /** What reader() and readers() refuse alike; 0: nothing. */
    private int refusedPairs(int r) {
        if (noRow(r)) {
            return BAD;
        }
        Sheet row = rows[r];
        if (!row.isThere()) {
            return found(NOTHING);
        }
        if (row.size % 2 != 0) {
            return found(SIZE);
        }
        for (int i = 0; i + 1 < row.size; i += 2) {
            boolean isSet = row.places[i] >= 0 && row.places[i] < bit(land.handCount);
            boolean isAnswer = row.places[i + 1] == 0 || row.places[i + 1] == 1;
            if (!isSet || !isAnswer) {
                return found(UNLIKE);
            }
        }
        return 0;
    }

    /** Whether just the letters that came through one of these hands were read. */
    private static boolean readsSo(Sheet row, int readers) {
        for (int i = 0; i + 1 < row.size; i += 2) {
            boolean carried = (row.places[i] & readers) != 0;
            if (carried != (row.places[i + 1] == 1)) {
                return false;
            }
        }
        return true;
    }

    private static int commonDivisor(int a, int b) {
        int divisor = a;
        int rest = b;
        for (int i = 0; i < 64 && rest != 0; i++) {
            int next = divisor % rest;
            divisor = rest;
            rest = next;
        }
        return Math.max(1, divisor);
    }

    private static int bit(int n) {
        return 1 << n;
    }

    private static boolean has(int set, int n) {
        return (set >> n & 1) == 1;
    }

    /** The member of a set at a place, the least first; NONE: there are not so many. */
    private static int memberAt(int set, int place) {
        int before = 0;
        for (int n = 0; n < MOST_HANDS; n++) {
            if (has(set, n)) {
                if (before == place) {
                    return n;
                }
                before++;
            }
        }
        return NONE;
    }

    /** Whether a HAND of a KIND is of another KIND, too: a MUTE is a CHILD, a SPY a LEARNER, all are HANDS. */
    private static boolean isOf(int kind, int other) {
        return kind == other || other == HAND || kind == MUTE && other == CHILD || kind == SPY && other == LEARNER;
    }

    /** The KIND that a letter of a TEXT stands for; NONE: no such. */
    private static int kindBy(int sign) {
        switch (sign) {
            case 'h': return HAND;
            case 'c': return CHILD;
            case 's': return SCHOLAR;
            case 'l': return LEARNER;
            case 'u': return MUTE;
            case 'y': return SPY;
            default: return NONE;
        }
    }

    /** The TONGUES of a set and those next to them by number. */
    private static int withNeighbours(int tongues) {
        return (tongues | tongues << 1 | tongues >> 1) & ALL_TONGUES;
    }

    /** A ROW or a TEXT, which may be missing. */
    private static final class Sheet {
        static final int MISSING = -1;

        final int[] places;
        int size = MISSING;

        Sheet(int most) {
            places = new int[most];
        }

        boolean isThere() {
            return size != MISSING;
        }

        /** The FINDING of a place that can't be had; 0: it can. */
        int lackAt(int i) {
            if (!isThere()) {
                return NOTHING;
            }
            return i < 0 || i >= size ? BEYOND : 0;
        }

        boolean spans(int from, int n) {
            return from >= 0 && from <= size && n >= 0 && n <= size - from;
        }

        void renew(int n, int value) {
            size = Math.min(n, places.length);
            for (int i = 0; i < size; i++) {
                places[i] = value;
            }
        }

        void fill(int[] values, int n) {
            size = Math.min(n, Math.min(values.length, places.length));
            for (int i = 0; i < size; i++) {
                places[i] = values[i];
            }
        }

        long sum() {
            long sum = 0;
            for (int i = 0; i < size; i++) {
                sum += places[i];
            }
            return sum;
        }

        long digestFrom(long before) {
            long h = 31 * before + size;
            for (int i = 0; i < size; i++) {
                h = 31 * h + places[i];
            }
            return h;
        }
    }

    /** A LETTER: to whom, in which TONGUES, and its hands with the HOURS in which it came to them. */
    private static final class Letter {
        final int[] through = new int[MOST_HANDS];
        final int[] came = new int[MOST_HANDS];
        int length = 1;
        int to = 0;
        int tongues = 0;

        void start(int from, int addressee, int written, int hour) {
            through[0] = from;
            came[0] = hour;
            length = 1;
            to = addressee;
            tongues = written;
        }

        void takeFrom(Letter other) {
            System.arraycopy(other.through, 0, through, 0, MOST_HANDS);
            System.arraycopy(other.came, 0, came, 0, MOST_HANDS);
            length = other.length;
            to = other.to;
            tongues = other.tongues;
        }

        int holder() {
            return through[length - 1];
        }

        int cameWhen() {
            return came[length - 1];
        }

        boolean isThere() {
            return holder() == to;
        }

        boolean isWithSender() {
            return length == 1;
        }

        boolean wasGivenIn(int hour) {
            return !isWithSender() && cameWhen() == hour;
        }

        /** All to whom it came so far, the sender too. */
        int seen() {
            int set = 0;
            for (int i = 0; i < length; i++) {
                set |= bit(through[i]);
            }
            return set;
        }

        /** Whether one has given it on who was neither the first nor is the last one. */
        boolean wasGivenOnBy(int x) {
            for (int i = 1; i < length - 1; i++) {
                if (through[i] == x) {
                    return true;
                }
            }
            return false;
        }

        void add(int x, int hour) {
            if (length < MOST_HANDS) {
                through[length] = x;
                came[length] = hour;
                length++;
            }
        }
    }

    /** A LAND: HANDS and what they KNOW, MEETINGS, LETTERS, the HOUR. */
    private static final class Land {
        final int[] kinds = new int[MOST_HANDS];
        final int[] known = new int[MOST_HANDS];
        final int[] ones = new int[MOST_MEETINGS];
        final int[] others = new int[MOST_MEETINGS];
        final int[] times = new int[MOST_MEETINGS];
        /** Who MEET one in an HOUR modulo 8, and in any; drawn from the MEETINGS, so that no search goes over these. */
        final int[][] metIn = new int[ROUND][MOST_HANDS];
        final int[] metEver = new int[MOST_HANDS];
        final Letter[] letters = new Letter[MOST_LETTERS];
        int handCount = 0;
        int meetingCount = 0;
        int letterCount = 0;
        int hour = 0;

        Land() {
            for (int k = 0; k < MOST_LETTERS; k++) {
                letters[k] = new Letter();
            }
        }

        void clear() {
            handCount = 0;
            meetingCount = 0;
            letterCount = 0;
            hour = 0;
            tieAll();
        }

        void takeFrom(Land other) {
            System.arraycopy(other.kinds, 0, kinds, 0, MOST_HANDS);
            System.arraycopy(other.known, 0, known, 0, MOST_HANDS);
            System.arraycopy(other.ones, 0, ones, 0, MOST_MEETINGS);
            System.arraycopy(other.others, 0, others, 0, MOST_MEETINGS);
            System.arraycopy(other.times, 0, times, 0, MOST_MEETINGS);
            for (int k = 0; k < other.letterCount; k++) {
                letters[k].takeFrom(other.letters[k]);
            }
            handCount = other.handCount;
            meetingCount = other.meetingCount;
            letterCount = other.letterCount;
            hour = other.hour;
            tieAll();
        }

        boolean lacks(int x) {
            return x < 0 || x >= handCount;
        }

        void addHand(int kind) {
            if (handCount < MOST_HANDS) {
                kinds[handCount] = kind;
                known[handCount] = 0;
                handCount++;
            }
        }

        void addMeeting(int x, int y, int time) {
            if (meetingCount < MOST_MEETINGS) {
                ones[meetingCount] = x;
                others[meetingCount] = y;
                times[meetingCount] = time;
                tie(x, y, time);
                meetingCount++;
            }
        }

        private void tie(int x, int y, int time) {
            metIn[time][x] |= bit(y);
            metIn[time][y] |= bit(x);
            metEver[x] |= bit(y);
            metEver[y] |= bit(x);
        }

        void tieAll() {
            Arrays.fill(metEver, 0);
            for (int time = 0; time < ROUND; time++) {
                Arrays.fill(metIn[time], 0);
            }
            for (int m = 0; m < meetingCount; m++) {
                tie(ones[m], others[m], times[m]);
            }
        }

        /** The HANDS of a KIND, as a set. */
        int ofKind(int kind) {
            int set = 0;
            for (int x = 0; x < handCount; x++) {
                if (isOf(kinds[x], kind)) {
                    set |= bit(x);
                }
            }
            return set;
        }

        int knowers(int tongue) {
            int set = 0;
            for (int x = 0; x < handCount; x++) {
                if (has(known[x], tongue)) {
                    set |= bit(x);
                }
            }
            return set;
        }

        /** Those TONGUES that one KNOWS by which one may not carry a LETTER in these. */
        int bars(int x, int tongues) {
            switch (kinds[x]) {
                case CHILD:
                case MUTE:
                case SPY:
                    return 0;
                case SCHOLAR:
                    return known[x] & withNeighbours(tongues);
                default:
                    return known[x] & tongues;
            }
        }

        boolean carries(int x, int tongues) {
            return bars(x, tongues) == 0;
        }

        /** To whom a LETTER can be given now, as a set. */
        int takers(Letter letter) {
            if (letter.isThere() || letter.wasGivenIn(hour)) {
                return 0;
            }
            int near = metIn[hour % ROUND][letter.holder()] & ~letter.seen();
            int set = 0;
            for (int x = 0; x < handCount; x++) {
                if (has(near, x) && (x == letter.to || takesBetween(x, letter))) {
                    set |= bit(x);
                }
            }
            return set;
        }

        private boolean takesBetween(int x, Letter letter) {
            return carries(x, letter.tongues) && (kinds[x] != MUTE || letter.isWithSender());
        }

        /** Gives a LETTER to one who can take it; whether it is there then. */
        boolean pass(Letter letter, int x) {
            int from = letter.holder();
            if (isOf(kinds[from], LEARNER)) {
                known[from] |= letter.tongues;
            }
            letter.add(x, hour);
            return letter.isThere();
        }

        int goBy(int n, int seed) {
            long lot = seed;
            int came = 0;
            for (int i = 0; i < n; i++) {
                for (int k = 0; k < letterCount; k++) {
                    int takers = takers(letters[k]);
                    int among = Integer.bitCount(takers);
                    if (among > 0) {
                        lot = lot * LOT_FACTOR % LOT_PRIME;
                        int next = memberAt(takers, (int) (lot % among));
                        came += next != NONE && pass(letters[k], next) ? 1 : 0;
                    }
                }
                hour++;
            }
            return came;
        }

        /** What hand() tells. */
        int factOf(int x, int what) {
            switch (what) {
                case 0: return kinds[x];
                case 1: return known[x];
                case 2: return meetingsOf(x);
                default: return lettersWith(x);
            }
        }

        private int meetingsOf(int x) {
            int n = 0;
            for (int m = 0; m < meetingCount; m++) {
                if (ones[m] == x || others[m] == x) {
                    n++;
                }
            }
            return n;
        }

        private int lettersWith(int x) {
            int n = 0;
            for (int k = 0; k < letterCount; k++) {
                if (letters[k].holder() == x && !letters[k].isThere()) {
                    n++;
                }
            }
            return n;
        }

        int lettersThere() {
            int n = 0;
            for (int k = 0; k < letterCount; k++) {
                if (letters[k].isThere()) {
                    n++;
                }
            }
            return n;
        }

        /** What mark() answers for one who is of the KIND. */
        int markOf(int x, int kind) {
            switch (kind) {
                case CHILD: return Integer.bitCount(known[x]);
                case SCHOLAR: return withNeighbours(known[x]);
                case LEARNER: return lettersGivenOnBy(x);
                case MUTE: return Integer.bitCount(metEver[x]);
                default: return TONGUES - Integer.bitCount(known[x]);
            }
        }

        private int lettersGivenOnBy(int x) {
            int n = 0;
            for (int k = 0; k < letterCount; k++) {
                if (letters[k].wasGivenOnBy(x)) {
                    n++;
                }
            }
            return n;
        }

        long digestFrom(long before) {
            long h = before;
            for (int x = 0; x < handCount; x++) {
                for (int what = 0; what <= 3; what++) {
                    h = 31 * h + factOf(x, what);
                }
            }
            for (int m = 0; m < meetingCount; m++) {
                h = 31 * h + ones[m];
                h = 31 * h + others[m];
                h = 31 * h + times[m];
            }
            for (int k = 0; k < letterCount; k++) {
                h = 31 * h + letters[k].to;
                h = 31 * h + letters[k].tongues;
                for (int i = 0; i < letters[k].length; i++) {
                    h = 31 * h + letters[k].through[i];
                }
            }
            return h;
        }
    }

    /** Reads a TEXT, sign by sign, into a LAND; each sign is taken as the stage says, or is the FAULT. */
    private static final class Reading {
        private static final int BETWEEN = 0, FIGURES = 1, ONE = 2, OTHER = 3, TIME = 4;

        private final Land drawn;
        private int stage = BETWEEN;
        private int lastFigure = NONE;
        private int one = 0;
        private int other = 0;

        Reading(Land to) {
            drawn = to;
        }

        /** The FAULT of a TEXT; NONE: there is none, and the LAND stands. */
        int faultOf(Sheet text) {
            drawn.clear();
            stage = BETWEEN;
            for (int i = 0; i < text.size; i++) {
                if (!takes(text.places[i])) {
                    return i;
                }
            }
            return stage >= ONE ? text.size : NONE;
        }

        private boolean takes(int sign) {
            int figure = sign >= '0' && sign <= '9' ? sign - '0' : NONE;
            switch (stage) {
                case FIGURES: return takesTongue(figure) || takesStart(sign);
                case ONE: return takesOne(figure);
                case OTHER: return takesOther(figure);
                case TIME: return takesTime(figure);
                default: return takesStart(sign);
            }
        }

        private boolean takesStart(int sign) {
            if (sign == BLANK) {
                stage = BETWEEN;
                return true;
            }
            if (sign == 'm') {
                stage = ONE;
                return drawn.meetingCount < MOST_MEETINGS;
            }
            int kind = kindBy(sign);
            if (kind == NONE || drawn.meetingCount > 0 || drawn.handCount >= MOST_HANDS) {
                return false;
            }
            drawn.addHand(kind);
            stage = FIGURES;
            lastFigure = NONE;
            return true;
        }

        private boolean takesTongue(int figure) {
            if (noTongue(figure) || figure <= lastFigure || drawn.handCount == 0) {
                return false;
            }
            drawn.known[drawn.handCount - 1] |= bit(figure);
            lastFigure = figure;
            return true;
        }

        private boolean takesOne(int figure) {
            one = figure;
            stage = OTHER;
            return !drawn.lacks(figure);
        }

        private boolean takesOther(int figure) {
            other = figure;
            stage = TIME;
            return !drawn.lacks(figure) && figure != one;
        }

        private boolean takesTime(int figure) {
            if (figure < 0 || figure >= ROUND) {
                return false;
            }
            drawn.addMeeting(one, other, figure);
            stage = BETWEEN;
            return true;
        }
    }

    /** Searches for WAYS of one LETTER over a LAND. */
    private static final class Ways {
        private static final int CLOSED = -1, FAR = 1000000;
        /** One TONGUE forgotten weighs more than all hands of a WAY, so that the price comes first. */
        private static final int TONGUE_WEIGHT = 16;

        private final Land land;
        private final int[] prices = new int[MOST_HANDS];
        private final int[] ahead = new int[MOST_HANDS];
        private int mutes = 0;
        /** The WAY that was found last, both ends too. */
        final int[] through = new int[MOST_HANDS];
        int length = 0;

        Ways(Land over) {
            land = over;
        }

        int carriers(int tongues) {
            int set = 0;
            for (int x = 0; x < land.handCount; x++) {
                if (land.bars(x, tongues) == 0) {
                    set |= bit(x);
                }
            }
            return set;
        }

        /**
         * To whom there is a WAY from one over such as are open. One who is an end and open, too,
         * needs no care: a WAY over that one has a WAY to that one as its beginning.
         */
        int endsFrom(int x, int open) {
            int free = open & ~bit(x);
            int later = free & ~land.ofKind(MUTE);
            int ends = land.metEver[x];
            int fresh = ends & free;
            int between = fresh;
            for (int step = 0; step < MOST_HANDS && fresh != 0; step++) {
                int met = metByAny(fresh);
                ends |= met;
                fresh = met & later & ~between;
                between |= fresh;
            }
            return ends & ~bit(x);
        }

        private int metByAny(int set) {
            int met = 0;
            for (int v = 0; v < land.handCount; v++) {
                if (has(set, v)) {
                    met |= land.metEver[v];
                }
            }
            return met;
        }

        /** In how many HOURS it gets there; NONE: not in those that count. */
        int soonest(int x, int y, int tongues, int hour) {
            int free = carriers(tongues) & ~bit(x);
            int later = free & ~land.ofKind(MUTE);
            int holders = 0;
            for (int wait = 0; wait < MOST_WAIT && hour + wait <= LAST_HOUR; wait++) {
                int[] met = land.metIn[(hour + wait) % ROUND];
                int near = 0;
                for (int v = 0; v < land.handCount; v++) {
                    if (has(holders, v)) {
                        near |= met[v];
                    }
                }
                if (has(near | met[x], y)) {
                    return wait + 1;
                }
                holders |= met[x] & free | near & later;
            }
            return NONE;
        }

        /**
         * By Menger's theorem: as many as the fewest hands without which no WAY over
         * hands between is left, and the one of no hands between.
         */
        int mostApart(int x, int y, int tongues) {
            int between = carriers(tongues) & ~bit(x) & ~bit(y);
            int fewest = MOST_HANDS;
            for (int gone = 0; gone < bit(MOST_HANDS); gone++) {
                boolean isPart = (gone & ~between) == 0;
                if (isPart && Integer.bitCount(gone) < fewest && !leadsOver(x, y, between & ~gone)) {
                    fewest = Integer.bitCount(gone);
                }
            }
            return fewest + (has(land.metEver[x], y) ? 1 : 0);
        }

        /** Whether there is a WAY with at least one hand between, all of these among the open ones. */
        private boolean leadsOver(int x, int y, int open) {
            int later = open & ~land.ofKind(MUTE);
            int between = land.metEver[x] & open;
            for (int step = 0; step < MOST_HANDS; step++) {
                between |= metByAny(between) & later;
            }
            return (between & land.metEver[y]) != 0;
        }

        void priceAsTheyAre(int tongues) {
            for (int x = 0; x < land.handCount; x++) {
                prices[x] = land.carries(x, tongues) ? 0 : CLOSED;
            }
        }

        void priceByForgetting(int tongues) {
            for (int x = 0; x < land.handCount; x++) {
                prices[x] = Integer.bitCount(land.bars(x, tongues));
            }
        }

        /** Finds the WAY of the least price, of these the one of fewest hands, of these the first by numbers. */
        boolean find(int x, int y) {
            mutes = land.ofKind(MUTE);
            weighAhead(x, y);
            if (ahead[x] >= FAR) {
                return false;
            }
            through[0] = x;
            length = 1;
            for (int step = 1; step < MOST_HANDS && through[length - 1] != y; step++) {
                through[length] = nextOn(through[length - 1], x, y);
                length++;
            }
            return true;
        }

        /** What weighs least from each hand on to the end; a WAY has at most as many steps as there are rounds. */
        private void weighAhead(int x, int y) {
            for (int v = 0; v < land.handCount; v++) {
                ahead[v] = has(land.metEver[v], y) ? 0 : FAR;
            }
            for (int round = 0; round < MOST_HANDS; round++) {
                for (int v = 0; v < land.handCount; v++) {
                    for (int u = 0; u < land.handCount; u++) {
                        if (u != y && leadsOn(v, u, x)) {
                            ahead[v] = Math.min(ahead[v], weightBy(u));
                        }
                    }
                }
            }
        }

        private boolean leadsOn(int v, int u, int x) {
            boolean takes = prices[u] != CLOSED && (v == x || !has(mutes, u));
            return u != x && takes && has(land.metEver[v], u);
        }

        private int weightBy(int u) {
            return prices[u] * TONGUE_WEIGHT + 1 + ahead[u];
        }

        private int nextOn(int v, int x, int y) {
            for (int u = 0; u < land.handCount; u++) {
                if (u != y && leadsOn(v, u, x) && weightBy(u) == ahead[v]) {
                    return u;
                }
            }
            return y;
        }

        int wholePrice() {
            int sum = 0;
            for (int i = 1; i < length - 1; i++) {
                sum += prices[through[i]];
            }
            return sum;
        }

        int whoPay() {
            int set = 0;
            for (int i = 1; i < length - 1; i++) {
                if (prices[through[i]] > 0) {
                    set |= bit(through[i]);
                }
            }
            return set;
        }
    }

    /** Goes over all pairs (who sends, who reads) of a LAND. */
    private static final class Pairs {
        private final Land land;
        private final Ways ways;
        private final int[] reached = new int[TONGUES];
        /** Pairs that KNOW a TONGUE in common, and those of them that are CUT OFF, by the last tally. */
        int all = 0;
        int cut = 0;

        Pairs(Land over, Ways by) {
            land = over;
            ways = by;
        }

        /** To whom one WRITES in a TONGUE, as a set. */
        private int writtenBy(int x, int tongue) {
            return has(land.known[x], tongue) ? land.knowers(tongue) & ~bit(x) : 0;
        }

        int reachedBy(int x, int tongue) {
            int readers = writtenBy(x, tongue);
            if (readers == 0) {
                return 0;
            }
            return readers & ways.endsFrom(x, ways.carriers(bit(tongue)));
        }

        void tally() {
            all = 0;
            cut = 0;
            for (int x = 0; x < land.handCount; x++) {
                int written = 0;
                int there = 0;
                for (int t = 0; t < TONGUES; t++) {
                    written |= writtenBy(x, t);
                    there |= reachedBy(x, t);
                }
                all += Integer.bitCount(written);
                cut += Integer.bitCount(written & ~there);
            }
        }

        int cutIfKnown(int x, int tongue) {
            int before = land.known[x];
            land.known[x] |= bit(tongue);
            tally();
            land.known[x] = before;
            return cut;
        }

        /** How many LETTERS of pairs that one is none of have no WAY without that one, but have one. */
        int lostWithout(int x) {
            int lost = 0;
            for (int t = 0; t < TONGUES; t++) {
                int open = ways.carriers(bit(t));
                for (int from = 0; from < land.handCount; from++) {
                    if (from != x) {
                        int gone = reachedBy(from, t) & ~ways.endsFrom(from, open & ~bit(x)) & ~bit(x);
                        lost += Integer.bitCount(gone);
                    }
                }
            }
            return lost;
        }

        /** The fewest TONGUES in one of which each pair that is not CUT OFF gets there; of alike sets the least. */
        int leastTongues() {
            int choices = choicesOfPairs();
            int least = ALL_TONGUES;
            for (int set = 0; set < ALL_TONGUES; set++) {
                if (Integer.bitCount(set) < Integer.bitCount(least) && meetsEach(set, choices)) {
                    least = set;
                }
            }
            return least;
        }

        /** Sets of TONGUES from which some pair has to choose: bit n stands for the set n. */
        private int choicesOfPairs() {
            int choices = 0;
            for (int x = 0; x < land.handCount; x++) {
                for (int t = 0; t < TONGUES; t++) {
                    reached[t] = reachedBy(x, t);
                }
                for (int y = 0; y < land.handCount; y++) {
                    int choice = tonguesTo(y);
                    choices |= choice == 0 ? 0 : bit(choice);
                }
            }
            return choices;
        }

        private int tonguesTo(int y) {
            int set = 0;
            for (int t = 0; t < TONGUES; t++) {
                if (has(reached[t], y)) {
                    set |= bit(t);
                }
            }
            return set;
        }

        private static boolean meetsEach(int set, int choices) {
            for (int choice = 1; choice <= ALL_TONGUES; choice++) {
                if ((choices >> choice & 1) == 1 && (choice & set) == 0) {
                    return false;
                }
            }
            return true;
        }
    }
}
