import java.util.Arrays;

/**
 * Warm chairs: in this house one may sit down only on a chair that is still warm.
 * The document (shared/DOC.md) tells what each call answers; its terms stand here in capitals.
 */
public final class WarmChairs {
    public static final int NONE = -1, BAD = -2, STATE = -3, FULL = -4;
    public static final long NO = -4611686018427387904L;

    private static final int NO_SUCH = -5, NOT_AS_TOLD = -7;
    private static final int NOTHING_THERE = -11, OUTSIDE = -12, UNLIKE = -13, BELOW_ZERO = -14;
    private static final int NOT_LENT = -100000, FAULT = -100;

    private static final int PEOPLE_MOST = 5, CHAIRS_MOST = 6, TEXTS_MOST = 6, SHEETS = 4;
    private static final int MINUTES = 30, LONG_MOST = 9, DIGIT_MOST = 9;
    private static final int STYLES = 3, SETS = 64, KINDS = 6, PERSON = 6;
    private static final int KEPT_MOST = 20, KEEPING_MINUTES = 200;
    private static final int SEED_MOST = 99999, SEEDS_MOST = 20;
    private static final long LOT_TIMES = 48271L, LOT_MODULO = 2147483647L;
    private static final int ORDERS = 120;

    private static final int WARM = 0, FIRST = 1, COSTS = 2;
    private static final int FAT = 0, MORE = 1, SAT = 2, STOOD = 3, MINUTE = 4, NUMBER = 5, NAMES = 6;
    private static final int RISEN = 3, SITS = 2, STANDS = 1, ABSENT = 0;
    private static final int INTS = 2;
    private static final String TEXT_0 = "warm 3 + fat + more ; first minute ; costs stood ;";

    private final House home = new House();
    private final House picture = new House();
    private boolean pictured = false;
    private final Tape tape = new Tape();
    private final Law[] texts = new Law[TEXTS_MOST];
    private int textsThere = 0;
    private final Sheet[] sheets = new Sheet[SHEETS];
    private final Evening evening = new Evening();
    private int bestRises = 0;
    private int bestStood = 0;
    private final int[] row = new int[PEOPLE_MOST];
    private final int[] bestRow = new int[PEOPLE_MOST];
    private final int[] kept = new int[KEPT_MOST];
    private final int[] asked = new int[NAMES];

    public WarmChairs() {
        for (int s = 0; s < SHEETS; s++) sheets[s] = new Sheet();
        for (int i = 0; i < TEXT_0.length(); i++) tape.put(TEXT_0.charAt(i));
        tape.isText();
        Law law = tape.law();
        tape.clear();
        // No place stays empty, so that no law is ever missing.
        for (int t = 0; t < TEXTS_MOST; t++) texts[t] = law;
        textsThere = 1;
    }

    // ---- people, the house, the law

    public int one(int minute, int minutes, int warms) {
        if (!isWish(0, minute) || !isWish(1, minutes) || !isWish(2, warms)) return BAD;
        if (home.people >= PEOPLE_MOST) return FULL;
        home.froms[home.people] = minute;
        home.longs[home.people] = minutes;
        home.fats[home.people] = warms;
        home.people++;
        return home.people - 1;
    }

    public int wish(int p, int what, int v) {
        if (!isPerson(p)) return NO_SUCH;
        if (!isWish(what, v)) return NOT_AS_TOLD;
        int[] wishes = home.wishes(what);
        int was = wishes[p];
        wishes[p] = v;
        return was;
    }

    public int oneTold(int p, int what) {
        if (!isPerson(p)) return NO_SUCH;
        if (!within(what, 0, 2)) return NOT_AS_TOLD;
        return home.wishes(what)[p];
    }

    public int house(int what, int v) {
        if (!within(what, 0, 2)) return NONE;
        if (!within(v, 0, what == 0 ? STYLES - 1 : what == 1 ? SETS - 1 : MINUTES)) return BAD;
        int was = home.setting(what);
        home.set(what, v);
        return was;
    }

    public int count(int what) {
        switch (what) {
            case 0: case 1: case 2: return home.setting(what);
            case 3: return home.people;
            case 4: return home.chairs;
            case 5: return textsThere;
            case 6: return home.law;
            case 7: return tape.size;
            default: return BAD;
        }
    }

    public int feed(int n, int a, int b, int c, int d, int e) {
        if (!within(n, 1, 5)) return BAD;
        if (!isByte(a) || !isByte(b) || !isByte(c) || !isByte(d) || !isByte(e)) return BAD;
        if (tape.size + n > Tape.MOST) return FULL;
        tape.put(a);
        if (n > 1) tape.put(b);
        if (n > 2) tape.put(c);
        if (n > 3) tape.put(d);
        if (n > 4) tape.put(e);
        return tape.size;
    }

    public int text() {
        if (textsThere >= TEXTS_MOST) return FULL;
        boolean good = tape.isText();
        int answer = good ? textsThere : FAULT - tape.tokenAt;
        if (good) {
            texts[textsThere] = tape.law();
            textsThere++;
        }
        tape.clear();
        return answer;
    }

    public int force(int t) {
        if (!within(t, 0, textsThere - 1)) return BAD;
        int was = home.law;
        home.law = t;
        return was;
    }

    public int asks(int part, int fatMore, int satStood, int minute, int number) {
        if (!within(part, WARM, COSTS) || !within(fatMore, 0, 99) || !within(satStood, 0, 999)) return BAD;
        if (!within(minute, 0, MINUTES) || !within(number, 0, DIGIT_MOST)) return BAD;
        asked[FAT] = fatMore / 10;
        asked[MORE] = fatMore % 10;
        asked[SAT] = satStood % 10;
        asked[STOOD] = satStood / 10;
        asked[MINUTE] = minute;
        asked[NUMBER] = number;
        return lawOf(home).says(part, asked);
    }

    // ---- chairs

    public int chair(int kind, int more) {
        if (!isKind(kind, more)) return BAD;
        if (home.chairs >= CHAIRS_MOST) return FULL;
        home.kinds[home.chairs] = kind;
        home.mores[home.chairs] = more;
        home.chairs++;
        return home.chairs - 1;
    }

    public int mend(int c, int kind, int more) {
        if (!isChair(c)) return NO_SUCH;
        if (!isKind(kind, more)) return NOT_AS_TOLD;
        int was = home.kinds[c];
        home.kinds[c] = kind;
        home.mores[c] = more;
        return was;
    }

    public int chairTold(int c, int what) {
        if (!isChair(c)) return NO_SUCH;
        if (!within(what, 0, 1)) return NOT_AS_TOLD;
        return what == 0 ? home.kinds[c] : home.mores[c];
    }

    // ---- an evening

    public int of(int n, int p, int what) {
        if (!within(n, 0, MINUTES) || !isPerson(p)) return NO_SUCH;
        if (!within(what, 0, 4)) return NOT_AS_TOLD;
        liveAsItIs(n);
        switch (what) {
            case 0: return evening.sitsOn[p];
            case 1: return evening.sat[p];
            case 2: return evening.stood[p];
            case 3: return evening.risenAt[p];
            default: return evening.satDownOn[p];
        }
    }

    public int chairOf(int n, int c, int what) {
        if (!within(n, 0, MINUTES) || !isChair(c)) return NO_SUCH;
        if (!within(what, 0, 2)) return NOT_AS_TOLD;
        liveAsItIs(n);
        if (what == 0) return evening.sitter[c];
        if (what == 1) return Math.max(0, evening.till[c] - n);
        return evening.isFree(c, n) ? 1 : 0;
    }

    public int all(int n, int what) {
        if (!within(n, 0, MINUTES)) return NO_SUCH;
        if (!within(what, 0, 5)) return NOT_AS_TOLD;
        liveAsItIs(n);
        switch (what) {
            case 0: return evening.risen;
            case 1: return evening.stoodTogether();
            case 2: return evening.stoodLongest();
            case 3: return evening.warmSet(n);
            case 4: return evening.satOn;
            default: return evening.costsTogether(lawOf(home));
        }
    }

    public int cold() {
        for (int n = MINUTES; n >= 0; n--) {
            liveAsItIs(n);
            if (evening.warmSet(n) != 0 || evening.satOn != 0) return n < MINUTES ? n + 1 : NONE;
        }
        return 0;
    }

    // ---- what would be better

    public int begin(int what) {
        if (!within(what, 0, 1)) return BAD;
        int best = NONE;
        int fewestChairs = NONE;
        for (int set = 0; set < 1 << home.chairs; set++) {
            int chairs = Integer.bitCount(set);
            if (best >= 0 && chairs >= fewestChairs) continue;
            if (risesBySet(set) < home.people) continue;
            best = set;
            fewestChairs = chairs;
        }
        return what == 0 ? best : fewestChairs;
    }

    public int take(int what) {
        if (!within(what, 0, 2)) return BAD;
        int best = 0;
        forgetBest();
        evening.house.become(home);
        for (int style = 0; style < STYLES; style++) {
            evening.house.style = style;
            evening.live(lawOf(home), MINUTES);
            if (isBest()) best = style;
        }
        return bestTold(what, best);
    }

    public int order(int what) {
        if (!within(what, 0, 2)) return BAD;
        findOrder();
        int digits = 0;
        for (int p = 0; p < home.people; p++) digits = digits * 10 + bestRow[p];
        return bestTold(what, digits);
    }

    public int invite() {
        findOrder();
        for (int p = 0; p < home.people; p++) row[p] = home.froms[bestRow[p]];
        System.arraycopy(row, 0, home.froms, 0, home.people);
        return bestRises;
    }

    public int late(int p, int what) {
        if (!isPerson(p)) return NO_SUCH;
        if (!within(what, 0, 1)) return NOT_AS_TOLD;
        int found = NONE;
        evening.house.become(home);
        for (int from = 0; from < MINUTES; from++) {
            evening.house.froms[p] = from;
            evening.live(lawOf(home), MINUTES);
            if (evening.risenAt[p] < 0) continue;
            found = from;
            if (what == 1) return found;
        }
        return found;
    }

    public int lent(int c, int what) {
        if (!isChair(c) || !within(what, 0, 1)) return NOT_LENT;
        liveAsItIs(MINUTES);
        int rises = evening.risen;
        int stood = evening.stoodTogether();
        evening.house.lentAway = c;
        evening.live(lawOf(home), MINUTES);
        return what == 0 ? rises - evening.risen : evening.stoodTogether() - stood;
    }

    public int move(int what) {
        if (!within(what, 0, 2)) return BAD;
        int best = NONE;
        forgetBest();
        liveAsItIs(MINUTES);
        isBest();
        for (int c = 0; c < home.chairs; c++) {
            for (int d = c + 1; d < home.chairs; d++) {
                evening.house.become(home);
                evening.house.change(c, d);
                evening.live(lawOf(home), MINUTES);
                if (isBest()) best = c * 10 + d;
            }
        }
        return bestTold(what, best);
    }

    // ---- keepers

    public int ever(int many, int keepers, int warm) {
        if (!within(many, 1, KEPT_MOST) || !within(keepers, 0, KEPT_MOST) || !within(warm, 0, KEPT_MOST)) return BAD;
        return coldMinute(many, keepers, warm);
    }

    public int fewest(int many, int warm) {
        if (!within(many, 1, KEPT_MOST) || !within(warm, 0, KEPT_MOST)) return BAD;
        for (int keepers = 0; keepers <= KEPT_MOST; keepers++) {
            if (coldMinute(many, keepers, warm) == NONE) return keepers;
        }
        return NONE;
    }

    // ---- told evenings

    public int judge(int s, int n) {
        int refusal = refusalOfTold(s, n);
        if (refusal != 0) return refusal;
        evening.house.become(home);
        return firstOtherwise(sheets[s], n);
    }

    public long were(int s, int n) {
        if (refusalOfTold(s, n) != 0) return NO;
        long sets = 0L;
        evening.house.become(home);
        for (int set = 0; set < 1 << home.chairs; set++) {
            evening.house.warmSet = set;
            if (firstOtherwise(sheets[s], n) == NONE) sets |= 1L << set;
        }
        return sets;
    }

    public int laws(int s, int n) {
        int refusal = refusalOfTold(s, n);
        if (refusal != 0) return refusal;
        int bits = 0;
        evening.house.become(home);
        for (int t = 0; t < textsThere; t++) {
            evening.house.law = t;
            if (firstOtherwise(sheets[s], n) == NONE) bits |= 1 << t;
        }
        return bits;
    }

    public int film(int s, int n) {
        if (!isSheet(s)) return BAD;
        if (!within(n, 0, MINUTES)) return NOT_AS_TOLD;
        liveAsItIs(n);
        sheets[s].become(INTS, home.people);
        for (int p = 0; p < home.people; p++) sheets[s].put(p, evening.told(p, n));
        return home.people;
    }

    // ---- evenings by lot

    public int drawn(int seed) {
        if (!within(seed, 0, SEED_MOST)) return BAD;
        return risesBySet(setBySeed(seed));
    }

    public long odds(int seed, int seeds, int n, int part) {
        if (!within(seed, 0, SEED_MOST) || !within(seeds, 1, SEEDS_MOST)) return NO;
        if (!within(n, 0, PEOPLE_MOST) || !within(part, 0, 1)) return NO;
        int above = 0;
        for (int k = 0; k < seeds; k++) {
            if (risesBySet(setBySeed(seed + k)) >= n) above++;
        }
        return (part == 0 ? above : seeds) / commonDivisor(above, seeds);
    }

    public int image() {
        picture.become(home);
        pictured = true;
        return home.people;
    }

    public int back() {
        if (!pictured) return STATE;
        home.become(picture);
        return home.people;
    }

    // ---- the host

    public int sheet(int s, int sort, int n) {
        if (!isSheet(s) || !within(sort, Sheet.MISSING, INTS)) return BAD;
        if (sort == Sheet.MISSING) {
            sheets[s].sort = Sheet.MISSING;
            return 1;
        }
        if (n > Sheet.MOST) return BAD;
        if (n < 0) return BELOW_ZERO;
        sheets[s].become(sort, n);
        return 1;
    }

    public int cell(int s, int i, int v) {
        if (!isSheet(s)) return BAD;
        if (sheets[s].isMissing()) return NOTHING_THERE;
        if (!sheets[s].has(i, 1)) return OUTSIDE;
        sheets[s].put(i, v);
        return 1;
    }

    public int copy(int s, int i, int other, int j, int n) {
        if (!isSheet(s) || !isSheet(other)) return BAD;
        Sheet here = sheets[s];
        Sheet there = sheets[other];
        if (here.isMissing() || there.isMissing()) return NOTHING_THERE;
        if (here.sort != there.sort) return UNLIKE;
        if (!here.has(i, n) || !there.has(j, n)) return OUTSIDE;
        System.arraycopy(here.cells, i, there.cells, j, n);
        return n;
    }

    public int onesBy(int s, int sort, int at, int n) {
        if (!isSheet(s) || !within(sort, 0, INTS) || !within(n, 0, PEOPLE_MOST)) return BAD;
        Sheet from = sheets[s];
        if (from.isMissing()) return NOTHING_THERE;
        if (from.sort != sort) return UNLIKE;
        int came = 0;
        for (int k = 0; k < n; k++) {
            int place = at + 3 * k;
            if (!from.has(place, 3)) return OUTSIDE;
            if (one(from.cells[place], from.cells[place + 1], from.cells[place + 2]) >= 0) came++;
        }
        return came;
    }

    public int taken(int i, int kind) {
        if (!within(kind, 0, PERSON)) return BAD;
        if (!within(i, 0, PEOPLE_MOST + CHAIRS_MOST - 1)) return OUTSIDE;
        int c = i - PEOPLE_MOST;
        if (c < 0) {
            if (i >= home.people) return NOTHING_THERE;
            return kind == PERSON ? home.longs[i] : UNLIKE;
        }
        if (c >= home.chairs) return NOTHING_THERE;
        return kind != PERSON && Kinds.isA(home.kinds[c], kind) ? c : UNLIKE;
    }

    // ---- what is as told

    private static boolean within(int v, int least, int most) {
        return v >= least && v <= most;
    }

    private static boolean isByte(int v) {
        return within(v, 0, 255);
    }

    private static boolean isKind(int kind, int more) {
        return within(kind, 0, KINDS - 1) && within(more, 0, DIGIT_MOST);
    }

    private static boolean isSheet(int s) {
        return within(s, 0, SHEETS - 1);
    }

    private static boolean isWish(int what, int v) {
        switch (what) {
            case 0: return within(v, 0, MINUTES - 1);
            case 1: return within(v, 1, LONG_MOST);
            case 2: return within(v, 0, DIGIT_MOST);
            default: return false;
        }
    }

    private boolean isPerson(int p) {
        return within(p, 0, home.people - 1);
    }

    private boolean isChair(int c) {
        return within(c, 0, home.chairs - 1);
    }

    /** Why judge(), were() and laws() refuse; 0: they do not. */
    private int refusalOfTold(int s, int n) {
        if (!isSheet(s)) return BAD;
        if (sheets[s].isMissing()) return NOTHING_THERE;
        if (sheets[s].size != home.people) return BAD;
        return within(n, 0, MINUTES) ? 0 : NOT_AS_TOLD;
    }

    // ---- evenings that are tried

    private Law lawOf(House house) {
        return texts[within(house.law, 0, textsThere - 1) ? house.law : 0];
    }

    private void liveAsItIs(int n) {
        evening.house.become(home);
        evening.live(lawOf(home), n);
    }

    private int risesBySet(int set) {
        evening.house.become(home);
        evening.house.warmSet = set;
        evening.live(lawOf(home), MINUTES);
        return evening.risen;
    }

    private int firstOtherwise(Sheet sheet, int n) {
        evening.live(lawOf(evening.house), n);
        for (int p = 0; p < home.people && p < sheet.size; p++) {
            if (sheet.cells[p] != evening.told(p, n)) return p;
        }
        return NONE;
    }

    private void forgetBest() {
        bestRises = NONE;
        bestStood = 0;
    }

    /** Whether the evening just lived is BETTER than the best so far; then it is the best. */
    private boolean isBest() {
        int rises = evening.risen;
        int stood = evening.stoodTogether();
        if (rises < bestRises || rises == bestRises && stood >= bestStood) return false;
        bestRises = rises;
        bestStood = stood;
        return true;
    }

    private int bestTold(int what, int which) {
        return what == 0 ? which : what == 1 ? bestRises : bestStood;
    }

    // ---- who comes when

    private void findOrder() {
        forgetBest();
        evening.house.become(home);
        for (int p = 0; p < home.people; p++) row[p] = p;
        for (int k = 0; k < ORDERS; k++) {
            for (int p = 0; p < home.people; p++) evening.house.froms[p] = home.froms[row[p]];
            evening.live(lawOf(home), MINUTES);
            if (isBest()) System.arraycopy(row, 0, bestRow, 0, home.people);
            if (!nextRow(home.people)) return;
        }
    }

    /** The next row of the first n numbers, as rows are sorted; false: it was the last. */
    private boolean nextRow(int n) {
        int rise = n - 2;
        while (rise >= 0 && row[rise] > row[rise + 1]) rise--;
        if (rise < 0) return false;
        int above = n - 1;
        while (above > rise && row[above] < row[rise]) above--;
        exchange(row, rise, above);
        for (int i = rise + 1, j = n - 1; i < j; i++, j--) exchange(row, i, j);
        return true;
    }

    private static void exchange(int[] numbers, int i, int j) {
        int was = numbers[i];
        numbers[i] = numbers[j];
        numbers[j] = was;
    }

    // ---- keeping and lots

    /**
     * The MINUTE in which one of the kept CHAIRS is cold. What a keeper takes becomes the warmest,
     * so the CHAIRS stay sorted in a ring: the least TILL is always at its head.
     */
    private int coldMinute(int many, int keepers, int warm) {
        int head = 0;
        for (int c = 0; c < many; c++) kept[c] = warm;
        for (int m = 0; m < KEEPING_MINUTES; m++) {
            if (kept[head] <= m) return m;
            for (int k = 0; k < keepers; k++) {
                kept[head] = m + 1 + warm;
                head = head + 1 < many ? head + 1 : 0;
            }
        }
        return NONE;
    }

    private int setBySeed(int seed) {
        int set = 0;
        long lot = seed + 1L;
        for (int c = 0; c < home.chairs; c++) {
            lot = lot * LOT_TIMES % LOT_MODULO;
            if (lot % 2 == 1) set |= 1 << c;
        }
        return set;
    }

    /** The greatest that divides both, below being 1 or more. */
    private static int commonDivisor(int above, int below) {
        for (int d = below; d > 1; d--) {
            if (above % d == 0 && below % d == 0) return d;
        }
        return 1;
    }

    // ---- classes

    /** All that AN IMAGE keeps; the trials change one of their own. */
    private static final class House {
        final int[] froms = new int[PEOPLE_MOST];
        final int[] longs = new int[PEOPLE_MOST];
        final int[] fats = new int[PEOPLE_MOST];
        int people = 0;
        final int[] kinds = new int[CHAIRS_MOST];
        final int[] mores = new int[CHAIRS_MOST];
        int chairs = 0;
        int style = 0;
        int warmSet = 1;
        int warmFor = 9;
        int law = 0;
        /** The CHAIR that a trial does without; NONE, where all may be sat on. */
        int lentAway = NONE;

        void become(House other) {
            System.arraycopy(other.froms, 0, froms, 0, PEOPLE_MOST);
            System.arraycopy(other.longs, 0, longs, 0, PEOPLE_MOST);
            System.arraycopy(other.fats, 0, fats, 0, PEOPLE_MOST);
            people = other.people;
            System.arraycopy(other.kinds, 0, kinds, 0, CHAIRS_MOST);
            System.arraycopy(other.mores, 0, mores, 0, CHAIRS_MOST);
            chairs = other.chairs;
            style = other.style;
            warmSet = other.warmSet;
            warmFor = other.warmFor;
            law = other.law;
            lentAway = other.lentAway;
        }

        int[] wishes(int what) {
            return what == 0 ? froms : what == 1 ? longs : fats;
        }

        int setting(int what) {
            return what == 0 ? style : what == 1 ? warmSet : warmFor;
        }

        void set(int what, int v) {
            if (what == 0) style = v;
            else if (what == 1) warmSet = v;
            else warmFor = v;
        }

        /** Two CHAIRS change KIND and MORE. */
        void change(int c, int d) {
            exchange(kinds, c, d);
            exchange(mores, c, d);
        }
    }

    /** What the KINDS of CHAIRS do. */
    private static final class Kinds {
        static final int CUSHIONED = 1, DRAUGHTY = 2, STOVE = 3, STOOL = 4, BENCH = 5;
        /** The KIND above each. */
        static final int[] ABOVE = {NONE, 0, 0, CUSHIONED, DRAUGHTY, 0};

        static boolean isA(int kind, int wanted) {
            int k = kind;
            for (int steps = 0; steps < KINDS && within(k, 0, KINDS - 1); steps++) {
                if (k == wanted) return true;
                k = ABOVE[k];
            }
            return false;
        }

        static int keepsWarm(int kind, int more, int warm, int sat) {
            switch (kind) {
                case CUSHIONED: case STOVE: return warm + more;
                case DRAUGHTY: return warm / 2;
                case STOOL: return sat < more ? 0 : warm / 2 * 2;
                default: return warm;
            }
        }

        static boolean lets(int kind, int more, int m) {
            return kind != STOVE || m < more;
        }
    }

    /** An evening, minute by minute, of a house of its own. */
    private static final class Evening {
        final House house = new House();
        final int[] sitsOn = new int[PEOPLE_MOST];
        final int[] satDownOn = new int[PEOPLE_MOST];
        final int[] sat = new int[PEOPLE_MOST];
        final int[] stood = new int[PEOPLE_MOST];
        final int[] risenAt = new int[PEOPLE_MOST];
        final int[] firsts = new int[PEOPLE_MOST];
        final boolean[] waits = new boolean[PEOPLE_MOST];
        final int[] till = new int[CHAIRS_MOST];
        final int[] sitter = new int[CHAIRS_MOST];
        final int[] names = new int[NAMES];
        /** The CHAIRS sat on, as bits. */
        int satOn = 0;
        /** How many have risen. */
        int risen = 0;

        private void start() {
            risen = 0;
            satOn = 0;
            Arrays.fill(sitsOn, NONE);
            Arrays.fill(satDownOn, NONE);
            Arrays.fill(sat, 0);
            Arrays.fill(stood, 0);
            Arrays.fill(risenAt, NONE);
            Arrays.fill(sitter, NONE);
            for (int c = 0; c < CHAIRS_MOST; c++) till[c] = (house.warmSet >> c & 1) != 0 ? house.warmFor : 0;
        }

        /** The first n minutes, of what the caller has made of the house. */
        void live(Law law, int n) {
            start();
            // Nothing changes any more once all have risen.
            for (int m = 0; m < n && risen < house.people; m++) {
                for (int p = 0; p < house.people; p++) {
                    if (sitsOn[p] >= 0 && sat[p] >= house.longs[p]) rise(law, p, m);
                }
                sitDown(law, m);
                for (int p = 0; p < house.people; p++) {
                    if (sitsOn[p] >= 0) sat[p]++;
                    else if (wants(p, m)) stood[p]++;
                }
            }
        }

        private void rise(Law law, int p, int m) {
            int c = sitsOn[p];
            int more = house.mores[c];
            nameFor(p, more, m, c);
            int keeps = Kinds.keepsWarm(house.kinds[c], more, law.says(WARM, names), sat[p]);
            till[c] = m + Math.max(0, keeps);
            sitter[c] = NONE;
            satOn &= ~(1 << c);
            sitsOn[p] = NONE;
            risenAt[p] = m;
            risen++;
        }

        private void sitDown(Law law, int m) {
            for (int p = 0; p < house.people; p++) {
                waits[p] = wants(p, m);
                if (!waits[p]) continue;
                nameFor(p, 0, m, p);
                firsts[p] = law.says(FIRST, names);
            }
            for (int turn = 0; turn < house.people; turn++) {
                int p = nextOne();
                int c = nextChair(m);
                if (p < 0 || c < 0) return;
                waits[p] = false;
                sitsOn[p] = c;
                satDownOn[p] = c;
                sitter[c] = p;
                satOn |= 1 << c;
            }
        }

        private boolean wants(int p, int m) {
            return m >= house.froms[p] && sitsOn[p] < 0 && risenAt[p] < 0;
        }

        private void nameFor(int p, int more, int minute, int number) {
            names[FAT] = house.fats[p];
            names[MORE] = more;
            names[SAT] = sat[p];
            names[STOOD] = stood[p];
            names[MINUTE] = minute;
            names[NUMBER] = number;
        }

        private int nextOne() {
            int best = NONE;
            for (int p = 0; p < house.people; p++) {
                if (waits[p] && (best < 0 || firsts[p] < firsts[best])) best = p;
            }
            return best;
        }

        private int nextChair(int m) {
            int best = NONE;
            for (int c = 0; c < house.chairs; c++) {
                if (isFree(c, m) && (best < 0 || isTakenAhead(c, best))) best = c;
            }
            return best;
        }

        private boolean isTakenAhead(int c, int best) {
            if (house.style == 1) return till[c] > till[best];
            return house.style == 2 && till[c] < till[best];
        }

        boolean isFree(int c, int m) {
            if (c == house.lentAway || sitter[c] >= 0) return false;
            return isWarm(c, m) && Kinds.lets(house.kinds[c], house.mores[c], m);
        }

        private boolean isWarm(int c, int m) {
            boolean besideSatOn = ((satOn << 1 | satOn >> 1) >> c & 1) != 0;
            return m < till[c] || house.kinds[c] == Kinds.STOVE || house.kinds[c] == Kinds.BENCH && besideSatOn;
        }

        int warmSet(int m) {
            int set = 0;
            for (int c = 0; c < house.chairs; c++) if (isWarm(c, m)) set |= 1 << c;
            return set;
        }

        int stoodTogether() {
            int together = 0;
            for (int p = 0; p < house.people; p++) together += stood[p];
            return together;
        }

        int stoodLongest() {
            int longest = NONE;
            for (int p = 0; p < house.people; p++) {
                if (longest < 0 || stood[p] > stood[longest]) longest = p;
            }
            return longest;
        }

        int costsTogether(Law law) {
            int together = 0;
            for (int p = 0; p < house.people; p++) {
                // The document tells costs by MINUTE 30, however many MINUTES have passed.
                nameFor(p, 0, MINUTES, p);
                names[SAT] = Math.min(DIGIT_MOST, sat[p]);
                together += law.says(COSTS, names);
            }
            return together;
        }

        /** What a told evening says of one behind n MINUTES. */
        int told(int p, int n) {
            if (risenAt[p] >= 0) return RISEN;
            if (sitsOn[p] >= 0) return SITS;
            return house.froms[p] < n ? STANDS : ABSENT;
        }
    }

    /** A TEXT that has been read: three parts as codes, operands ahead of what joins them. */
    private static final class Law {
        /** Codes below NAME are numbers, from NAME on names, from OR on operations. */
        static final int NAME = 10000;
        static final int OR = NAME + NAMES, AND = OR + 1, LESS = OR + 2, EQUAL = OR + 3;
        static final int PLUS = OR + 4, MINUS = OR + 5, TIMES = OR + 6, NOT = OR + 7, NEGATE = OR + 8;
        /** Five open signs make six levels, and each leaves five operands waiting at most. */
        static final int STACK = 40;
        static final int SAYS_MOST = 99;

        private final int[] codes;
        private final int[] ends;
        private final int[] stack = new int[STACK];

        Law(int[] codes, int[] ends) {
            this.codes = codes;
            this.ends = ends;
        }

        /** What a part says: below 0 it says 0, above 99 it says 99. */
        int says(int part, int[] named) {
            int top = 0;
            stack[0] = 0;
            for (int k = part == WARM ? 0 : ends[part - 1]; k < ends[part]; k++) {
                int code = codes[k];
                if (code < OR && top < STACK) {
                    stack[top] = code < NAME ? code : named[code - NAME];
                    top++;
                } else if (code == NEGATE && top > 0) {
                    stack[top - 1] = -stack[top - 1];
                } else if (code == NOT && top > 0) {
                    stack[top - 1] = stack[top - 1] == 0 ? 1 : 0;
                } else if (top > 1) {
                    top--;
                    stack[top - 1] = joined(code, stack[top - 1], stack[top]);
                }
            }
            return Math.max(0, Math.min(SAYS_MOST, stack[0]));
        }

        private static int joined(int code, int a, int b) {
            switch (code) {
                case OR: return a != 0 || b != 0 ? 1 : 0;
                case AND: return a != 0 && b != 0 ? 1 : 0;
                case LESS: return a < b ? 1 : 0;
                case EQUAL: return a == b ? 1 : 0;
                case PLUS: return a + b;
                case MINUS: return a - b;
                default: return a * b;
            }
        }
    }

    /** THE TAPE, and how a TEXT is read from it. */
    private static final class Tape {
        static final int MOST = 160;
        /** Tokens beside numbers, names and operations, which are as their codes. */
        static final int END = -1, BROKEN = -2, OPEN = -3, CLOSE = -4, SEMICOLON = -5;
        static final int KEY = -10;
        static final int DIGITS_MOST = 4, OPEN_MOST = 5;

        int size = 0;
        /** Where the token begins that is being looked at; if the text is none, that is its FAULT. */
        int tokenAt = 0;
        private final int[] bytes = new int[MOST];
        private final int[] codes = new int[MOST];
        private final int[] ends = new int[COSTS + 1];
        private int codesThere = 0;
        private int place = 0;
        private int token = END;

        void put(int b) {
            if (size >= MOST) return;
            bytes[size] = b;
            size++;
        }

        void clear() {
            size = 0;
        }

        boolean isText() {
            codesThere = 0;
            place = 0;
            look();
            for (int part = WARM; part <= COSTS; part++) {
                if (!passes(KEY - part) || !isEither(0)) return false;
                ends[part] = codesThere;
                if (!passes(SEMICOLON)) return false;
            }
            return token == END;
        }

        /** The law that isText() has read. */
        Law law() {
            return new Law(Arrays.copyOf(codes, codesThere), Arrays.copyOf(ends, ends.length));
        }

        /** Goes on behind the token, if it is that one. */
        private boolean passes(int wanted) {
            if (token != wanted) return false;
            look();
            return true;
        }

        private boolean emit(int code) {
            if (codesThere >= MOST) return false;
            codes[codesThere] = code;
            codesThere++;
            return true;
        }

        // E, AND, NOT, SUM, TERM, ONE: each answers whether it stood there; open counts ( , not, - .

        private boolean isEither(int open) {
            if (!isBoth(open)) return false;
            for (int k = 0; k < MOST && token == Law.OR; k++) {
                look();
                if (!isBoth(open) || !emit(Law.OR)) return false;
            }
            return true;
        }

        private boolean isBoth(int open) {
            if (!isNot(open)) return false;
            for (int k = 0; k < MOST && token == Law.AND; k++) {
                look();
                if (!isNot(open) || !emit(Law.AND)) return false;
            }
            return true;
        }

        private boolean isNot(int open) {
            if (token == Law.NOT) {
                if (open >= OPEN_MOST) return false;
                look();
                return isNot(open + 1) && emit(Law.NOT);
            }
            if (!isSum(open)) return false;
            int sign = token;
            if (sign != Law.LESS && sign != Law.EQUAL) return true;
            look();
            return isSum(open) && emit(sign);
        }

        private boolean isSum(int open) {
            if (!isTerm(open)) return false;
            for (int k = 0; k < MOST && (token == Law.PLUS || token == Law.MINUS); k++) {
                int sign = token;
                look();
                if (!isTerm(open) || !emit(sign)) return false;
            }
            return true;
        }

        private boolean isTerm(int open) {
            if (!isOperand(open)) return false;
            for (int k = 0; k < MOST && token == Law.TIMES; k++) {
                look();
                if (!isOperand(open) || !emit(Law.TIMES)) return false;
            }
            return true;
        }

        private boolean isOperand(int open) {
            if (token >= 0 && token < Law.OR) {
                int code = token;
                look();
                return emit(code);
            }
            if (open >= OPEN_MOST) return false;
            if (token == Law.MINUS) {
                look();
                return isOperand(open + 1) && emit(Law.NEGATE);
            }
            return passes(OPEN) && isEither(open + 1) && passes(CLOSE);
        }

        // ---- tokens

        /** Looks at the next token. */
        private void look() {
            while (place < size && isBlank(bytes[place])) place++;
            tokenAt = place;
            if (place >= size) token = END;
            else if (isLetter(bytes[place])) token = word();
            else if (isDigit(bytes[place])) token = number();
            else token = sign();
        }

        private int word() {
            while (place < size && isLetter(bytes[place])) place++;
            if (spells("fat")) return Law.NAME + FAT;
            if (spells("more")) return Law.NAME + MORE;
            if (spells("sat")) return Law.NAME + SAT;
            if (spells("stood")) return Law.NAME + STOOD;
            if (spells("minute")) return Law.NAME + MINUTE;
            if (spells("number")) return Law.NAME + NUMBER;
            if (spells("warm")) return KEY - WARM;
            if (spells("first")) return KEY - FIRST;
            if (spells("costs")) return KEY - COSTS;
            if (spells("or")) return Law.OR;
            if (spells("and")) return Law.AND;
            return spells("not") ? Law.NOT : BROKEN;
        }

        private boolean spells(String word) {
            if (place - tokenAt != word.length()) return false;
            for (int i = 0; i < word.length(); i++) {
                if (bytes[tokenAt + i] != word.charAt(i)) return false;
            }
            return true;
        }

        private int number() {
            int value = 0;
            while (place < size && isDigit(bytes[place])) {
                // Past four digits it is BROKEN, so that a wrapped value does no harm.
                value = value * 10 + bytes[place] - '0';
                place++;
            }
            return place - tokenAt > DIGITS_MOST ? BROKEN : value;
        }

        private int sign() {
            int b = bytes[place];
            place++;
            switch (b) {
                case '(': return OPEN;
                case ')': return CLOSE;
                case ';': return SEMICOLON;
                case '+': return Law.PLUS;
                case '-': return Law.MINUS;
                case '*': return Law.TIMES;
                case '<': return Law.LESS;
                case '=': return Law.EQUAL;
                default: return BROKEN;
            }
        }

        private static boolean isBlank(int b) {
            return b == 32 || b == 10;
        }

        private static boolean isLetter(int b) {
            return b >= 'a' && b <= 'z';
        }

        private static boolean isDigit(int b) {
            return b >= '0' && b <= '9';
        }
    }

    /** A row of numbers of a sort, or a missing one. */
    private static final class Sheet {
        static final int MISSING = -1, BYTES = 0, SHORTS = 1, MOST = 40;

        int sort = MISSING;
        int size = 0;
        final int[] cells = new int[MOST];

        boolean isMissing() {
            return sort == MISSING;
        }

        void become(int newSort, int newSize) {
            sort = newSort;
            size = newSize;
            Arrays.fill(cells, 0);
        }

        /** Whether all of n places, from i on, are its own. */
        boolean has(int i, int n) {
            return i >= 0 && n >= 0 && i <= size && n <= size - i;
        }

        void put(int i, int v) {
            if (!has(i, 1)) return;
            cells[i] = sort == BYTES ? (byte) v : sort == SHORTS ? (short) v : v;
        }
    }
}
