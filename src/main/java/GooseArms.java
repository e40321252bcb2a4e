/** A court that reads goose-flesh, as ../shared/DOC.md tells; words in capitals are that document's terms. */
public final class GooseArms {
    public static final int BAD = -1, FULL = -2, NONE = -3;

    private static final int NO_ROW = -9;
    private static final int NOTHING = -11;
    private static final int OUTSIDE = -12;
    private static final int OTHER_SORT = -13;
    private static final int BELOW_ZERO = -14;
    private static final int BY_ZERO = -15;
    private static final int FAULT_BASE = -100;

    private static final int HEARER = 0, JUDGE = 1, ADVOCATE = 2, ELDER = 3, LIAR = 4, HORSE = 5;
    private static final int COLD = 0, OATH = 1, WEAR = 2, DRAUGHT = 3;
    private static final int SHAKES = 0, READS = 1, PARTS = 2, SWEARS = 3;

    private static final int MOST_SAYINGS = 12;
    private static final int MOST_HEARERS = 8;
    private static final int MOST_TOPIC = 7;
    private static final int MOST_HEAT = 9;
    private static final int MOST_TENDER = 99;
    private static final int MOST_MIND = 255;
    private static final int MOST_BYTES = 200;
    private static final int MOST_ROWS = 10;
    private static final int ROW_WIDTH = 3;
    private static final int MOST_ITEMS = 40;
    private static final int PLACES = 4;
    private static final int MOST_BODIES = 30;
    private static final int EVERYONE = 255;

    private static final int[] LAWS_AT_FIRST = {2, 3, 1, 20};
    private static final int[] MOST_OF_LAW = {9, 9, 9, 99};

    private final Court now = new Court();
    private final Court kept = new Court();
    private final Court trial = new Court();
    private final Court told = new Court();
    private boolean anythingKept = false;

    private final Tape tape = new Tape();
    private final int[] rows = new int[MOST_ROWS * ROW_WIDTH];
    private int rowCount = 0;

    private final Sheet[] sheets = {new Sheet(), new Sheet(), new Sheet(), new Sheet()};
    private final Shelf[] shelves = {new Shelf(), new Shelf(), new Shelf(), new Shelf()};
    private final Deed deed = new Deed();

    public GooseArms() {
    }

    // ---- the court as it is ----

    public int feed(long eight, int n) {
        if (!within(n, 1, 8)) {
            return BAD;
        }
        return tape.takes(eight, n) ? tape.length : FULL;
    }

    public int court() {
        told.begin();
        int fault = tape.tells(told);
        tape.length = 0;
        if (fault >= 0) {
            return FAULT_BASE - fault;
        }
        told.z = now.z;
        now.become(told);
        rowCount = 0;
        return now.hearers;
    }

    public int set(int law, int v) {
        if (!isLaw(law) || !within(v, 0, MOST_OF_LAW[law])) {
            return BAD;
        }
        int was = now.laws[law];
        now.laws[law] = v;
        return was;
    }

    public int lawOf(int law) {
        return isLaw(law) ? now.laws[law] : BAD;
    }

    public int saying(int topic, int heat, int so) {
        if (!within(topic, 0, MOST_TOPIC) || !within(heat, 0, MOST_HEAT) || !within(so, 0, 1)) {
            return BAD;
        }
        if (now.sayings >= MOST_SAYINGS) {
            return FULL;
        }
        now.addSaying(topic, heat, so);
        return now.sayings - 1;
    }

    public int sayingOf(int saying, int what) {
        if (!isSaying(saying)) {
            return BAD;
        }
        switch (what) {
            case 0: return now.topics[saying];
            case 1: return now.heats[saying];
            case 2: return now.sworn[saying];
            case 3: return now.raisedBy(saying);
            default: return BAD;
        }
    }

    public int alter(int saying, int what, int v) {
        if (!isSaying(saying)) {
            return BAD;
        }
        switch (what) {
            case 0: return replaced(now.topics, saying, v, MOST_TOPIC);
            case 1: return replaced(now.heats, saying, v, MOST_HEAT);
            case 2: return replaced(now.sworn, saying, v, 1);
            default: return BAD;
        }
    }

    public int hearer(int kind, int tender, int mind) {
        if (!isKind(kind) || !within(tender, 0, MOST_TENDER) || !within(mind, 0, MOST_MIND)) {
            return BAD;
        }
        if (now.hearers >= MOST_HEARERS) {
            return FULL;
        }
        now.addHearer(kind, tender, mind);
        return now.hearers - 1;
    }

    public int of(int hearer, int what) {
        if (!isHearer(hearer)) {
            return BAD;
        }
        switch (what) {
            case 0: return now.kinds[hearer];
            case 1: return now.tenders[hearer];
            case 2: return now.topicsInMind[hearer];
            case 3: return now.arms[hearer];
            default: return BAD;
        }
    }

    public int does(int hearer, int what) {
        if (!isHearer(hearer)) {
            return BAD;
        }
        switch (what) {
            case 0: return 1000 + (now.left() > 0 ? now.shivers(hearer, now.said) : 0);
            case 1: return 1000 + now.needs(hearer);
            case 2: return 1000 + now.wears(hearer);
            default: return BAD;
        }
    }

    public int mind(int hearer, int kind, int mind) {
        if (!isHearer(hearer) || !isKind(kind) || !within(mind, 0, MOST_MIND)) {
            return BAD;
        }
        int was = now.kinds[hearer];
        now.kinds[hearer] = kind;
        now.topicsInMind[hearer] = mind;
        return was;
    }

    public int tender(int hearer, int v) {
        return isHearer(hearer) ? replaced(now.tenders, hearer, v, MOST_TENDER) : BAD;
    }

    public int say(int n) {
        return within(n, 1, 60) ? now.sayMore(n, EVERYONE) : BAD;
    }

    public int anew() {
        int was = now.said;
        now.said = 0;
        for (int h = 0; h < now.hearers; h++) {
            now.arms[h] = 0;
        }
        return was;
    }

    public int seed(int v) {
        int was = now.z;
        now.z = v;
        return was;
    }

    public int draught() {
        if (now.left() == 0) {
            return NONE;
        }
        int raisedSet = now.raisedNext(EVERYONE) | now.drawnSet();
        now.sayNext(raisedSet);
        return raisedSet;
    }

    public int chills(int n) {
        if (!within(n, 1, 30)) {
            return BAD;
        }
        if (now.left() == 0) {
            return 0;
        }
        Court tried = tried();
        int plain = tried.raisedNext(EVERYONE);
        int more = 0;
        for (int i = 0; i < n; i++) {
            // a draught adds to those raised anyway, so only z has to go on from one try to the next
            if ((plain | tried.drawnSet()) != plain) {
                more++;
            }
        }
        return more;
    }

    public int state(int what) {
        switch (what) {
            case 0: return now.said;
            case 1: return now.sayings;
            case 2: return now.swornSet();
            case 3: return now.tenderOfAll();
            case 4: return now.marked();
            case 5: return alike();
            default: return BAD;
        }
    }

    // ---- what is tried ----

    public int arm(int hearer, int n) {
        if (!isHearer(hearer) || !within(n, 0, 60)) {
            return BAD;
        }
        Court tried = tried();
        tried.sayMore(n, only(hearer));
        return tried.arms[hearer];
    }

    public int raised(int hearer) {
        if (!isHearer(hearer)) {
            return BAD;
        }
        Court tried = tried();
        for (int n = 0; n <= MOST_SAYINGS; n++) {
            if (tried.arms[hearer] != 0) {
                return n;
            }
            tried.sayMore(1, only(hearer));
        }
        return NONE;
    }

    public int right(int hearer) {
        return isHearer(hearer) ? rightInTheEnd(tried(), hearer) : BAD;
    }

    public int topicFor(int saying) {
        if (!isSaying(saying)) {
            return BAD;
        }
        if (saying < now.said) {
            return NONE;
        }
        int best = 0;
        int most = -1;
        for (int topic = 0; topic <= MOST_TOPIC; topic++) {
            Court tried = tried();
            tried.topics[saying] = topic;
            tried.sayMore(MOST_SAYINGS, EVERYONE);
            int count = Integer.bitCount(tried.raisedBy(saying));
            if (count > most) {
                most = count;
                best = topic;
            }
        }
        return best;
    }

    public int heatFor(int saying, int hearer) {
        if (!isSaying(saying) || !isHearer(hearer)) {
            return BAD;
        }
        if (saying < now.said) {
            return NONE;
        }
        for (int heat = 0; heat <= MOST_HEAT; heat++) {
            Court tried = tried();
            tried.heats[saying] = heat;
            tried.sayMore(MOST_SAYINGS, only(hearer));
            if (has(tried.arms[hearer], saying)) {
                return heat;
            }
        }
        return NONE;
    }

    public int kindFor(int hearer) {
        if (!isHearer(hearer)) {
            return BAD;
        }
        int best = HEARER;
        int most = -1;
        for (int kind = HEARER; kind <= HORSE; kind++) {
            Court tried = tried();
            tried.kinds[hearer] = kind;
            int count = rightInTheEnd(tried, hearer);
            if (count > most) {
                most = count;
                best = kind;
            }
        }
        return best;
    }

    public int tenderFor(int hearer) {
        if (!isHearer(hearer)) {
            return BAD;
        }
        int best = 0;
        int most = -1;
        for (int tender = 0; tender <= MOST_TENDER; tender++) {
            Court tried = tried();
            tried.tenders[hearer] = tender;
            int count = rightInTheEnd(tried, hearer);
            if (count > most) {
                most = count;
                best = tender;
            }
        }
        return best;
    }

    public int nextFor(int hearer) {
        if (!isHearer(hearer)) {
            return BAD;
        }
        int best = NONE;
        int most = -1;
        for (int saying = now.said; saying < now.sayings; saying++) {
            Court tried = tried();
            tried.changePlaces(now.said, saying);
            int count = rightInTheEnd(tried, hearer);
            if (count > most) {
                most = count;
                best = saying;
            }
        }
        return best;
    }

    public int enough() {
        Court tried = tried();
        tried.sayMore(MOST_SAYINGS, EVERYONE);
        int sworn = tried.swornSet();
        int best = NONE;
        for (int set = 0; set < 1 << tried.hearers; set++) {
            boolean covers = (sworn & ~tried.armsTogether(set)) == 0;
            if (covers && (best == NONE || Integer.bitCount(set) < Integer.bitCount(best))) {
                best = set;
            }
        }
        return best;
    }

    public int fits(int sheet, int hearer, int what) {
        if (!isPlace(sheet) || !isHearer(hearer) || !within(what, 0, 1)) {
            return BAD;
        }
        if (sheets[sheet].isMissing()) {
            return NOTHING;
        }
        int count = 0;
        int least = NONE;
        for (int tender = MOST_TENDER; tender >= 0; tender--) {
            if (mightBeSo(sheets[sheet], hearer, tender)) {
                count++;
                least = tender;
            }
        }
        return what == 0 ? count : least;
    }

    public long odds(int n, int k, int part) {
        if (!within(n, 0, 8) || !within(k, 0, n) || !within(part, 0, 1)) {
            return BAD;
        }
        int p = now.laws[DRAUGHT];
        long above = waysToChoose(n, k) * power(p, k) * power(100 - p, n - k);
        return partOfFraction(above, power(100, n), part);
    }

    public long hope(int n, int part) {
        if (!within(n, 0, 99) || !within(part, 0, 1)) {
            return BAD;
        }
        return partOfFraction((long) n * now.laws[DRAUGHT], 100, part);
    }

    // ---- rows ----

    public int prove(int hearer, int n) {
        if (!isHearer(hearer) || !within(n, 1, MOST_ROWS)) {
            return BAD;
        }
        Court tried = tried();
        rowCount = Math.min(n, tried.left());
        for (int i = 0; i < rowCount; i++) {
            int count = Integer.bitCount(sayNextTried(tried));
            rows[i * ROW_WIDTH] = tried.arms[hearer];
            rows[i * ROW_WIDTH + 1] = tried.tenders[hearer];
            rows[i * ROW_WIDTH + 2] = count;
        }
        return rowCount;
    }

    public int row(int i, int what) {
        return isCell(i, what) ? rows[i * ROW_WIDTH + what] : NO_ROW;
    }

    public int alterRow(int i, int what, int v) {
        if (!isCell(i, what)) {
            return NO_ROW;
        }
        int was = rows[i * ROW_WIDTH + what];
        rows[i * ROW_WIDTH + what] = v;
        return was;
    }

    public int judge(int hearer) {
        if (!isHearer(hearer)) {
            return BAD;
        }
        Court tried = tried();
        for (int i = 0; i < rowCount; i++) {
            if (tried.left() == 0) {
                return i + 1;
            }
            int count = Integer.bitCount(sayNextTried(tried));
            boolean right = rows[i * ROW_WIDTH] == tried.arms[hearer]
                    && rows[i * ROW_WIDTH + 1] == tried.tenders[hearer]
                    && rows[i * ROW_WIDTH + 2] == count;
            if (!right) {
                return i + 1;
            }
        }
        return 0;
    }

    // ---- sheets and shelves ----

    public int minds(int sheet, int i, int hearer, int n) {
        if (!isPlace(sheet) || !isHearer(hearer) || !within(n, 0, MOST_HEARERS) || hearer + n > now.hearers) {
            return BAD;
        }
        Sheet from = sheets[sheet];
        if (from.isMissing()) {
            return NOTHING;
        }
        if (from.sort != Sheet.BYTES) {
            return OTHER_SORT;
        }
        if (!within(i, 0, from.size) || i + n > from.size) {
            return OUTSIDE;
        }
        for (int k = 0; k < n; k++) {
            now.tenders[hearer + k] = heldTender((int) from.items[i + k]);
        }
        return n;
    }

    public int sheet(int sheet, int sort, int n) {
        if (!isPlace(sheet) || !within(sort, Sheet.MISSING, Sheet.LONGS)) {
            return BAD;
        }
        if (sort == Sheet.MISSING) {
            sheets[sheet].becomes(sort, 0);
            return 1;
        }
        if (n > MOST_ITEMS) {
            return BAD;
        }
        if (n < 0) {
            return BELOW_ZERO;
        }
        sheets[sheet].becomes(sort, n);
        return 1;
    }

    public int put(int sheet, int i, int v) {
        if (!isPlace(sheet)) {
            return BAD;
        }
        Sheet into = sheets[sheet];
        if (into.isMissing()) {
            return NOTHING;
        }
        if (!within(i, 0, into.size - 1)) {
            return OUTSIDE;
        }
        into.items[i] = into.narrowed(v);
        return 1;
    }

    public int item(int sheet, int sort, int i) {
        if (!isPlace(sheet) || !within(sort, Sheet.BYTES, Sheet.LONGS)) {
            return BAD;
        }
        Sheet from = sheets[sheet];
        if (from.isMissing()) {
            return NOTHING;
        }
        if (from.sort != sort) {
            return OTHER_SORT;
        }
        return within(i, 0, from.size - 1) ? (int) from.items[i] : OUTSIDE;
    }

    public int shelf(int shelf, int what, int n) {
        if (!isPlace(shelf)) {
            return BAD;
        }
        switch (what) {
            case 0:
                if (!isHearer(n)) {
                    return BAD;
                }
                shelves[shelf].takesHearer(n);
                return 1;
            case 1:
                if (!isPlace(n)) {
                    return BAD;
                }
                shelves[shelf].takesRow(sheets[n]);
                return 1;
            case 2:
                shelves[shelf].empties();
                return 1;
            default:
                return BAD;
        }
    }

    public int taken(int shelf, int as) {
        boolean asRow = within(as, 10, 13);
        if (!isPlace(shelf) || !(asRow || isKind(as))) {
            return BAD;
        }
        Shelf from = shelves[shelf];
        if (from.holds == Shelf.ROW) {
            return asRow && from.sort == as - 10 ? from.size : OTHER_SORT;
        }
        if (!holdsHearer(from)) {
            return NOTHING;
        }
        return !asRow && isUnder(now.kinds[from.hearer], as) ? from.hearer : OTHER_SORT;
    }

    // ---- acts ----

    public int act(int shelf, int act, int x) {
        deed.count = 0;
        if (!isPlace(shelf) || !within(act, SHAKES, SWEARS) || !holdsHearer(shelves[shelf])) {
            return 0;
        }
        int hearer = shelves[shelf].hearer;
        deed.begin(now.kinds[hearer], hearer, now.tenders[hearer]);
        int answer = Deed.runs(deed, Deed.bodyOf(now.kinds[hearer], act), x, 0);
        return deed.partedByZero ? BY_ZERO : answer;
    }

    public int trace(int i) {
        return within(i, 0, deed.count - 1) ? deed.bodies[i] : NONE;
    }

    public int many(int what) {
        switch (what) {
            case 0: return now.hearers;
            case 1: return now.left();
            case 2: return Integer.bitCount(now.swornSet());
            case 3: return Integer.bitCount(now.marked());
            case 4: return rowCount;
            case 5: return tape.length;
            case 6: return deed.count;
            default: return BAD;
        }
    }

    public int keep() {
        kept.become(now);
        anythingKept = true;
        return 1;
    }

    public int again() {
        if (!anythingKept) {
            return NONE;
        }
        now.become(kept);
        return now.hearers;
    }

    // ---- help ----

    private static boolean within(int v, int least, int most) {
        return v >= least && v <= most;
    }

    private static boolean has(int set, int member) {
        return (set >> member & 1) == 1;
    }

    private static int only(int member) {
        return 1 << member;
    }

    private static int heldTender(int v) {
        return Math.max(0, Math.min(MOST_TENDER, v));
    }

    private static boolean isLaw(int law) {
        return within(law, COLD, DRAUGHT);
    }

    private static boolean isKind(int kind) {
        return within(kind, HEARER, HORSE);
    }

    private static boolean isPlace(int place) {
        return within(place, 0, PLACES - 1);
    }

    private boolean isSaying(int saying) {
        return within(saying, 0, now.sayings - 1);
    }

    private boolean isHearer(int hearer) {
        return within(hearer, 0, now.hearers - 1);
    }

    private boolean isCell(int i, int what) {
        return within(i, 0, rowCount - 1) && within(what, 0, ROW_WIDTH - 1);
    }

    /** A shelf knows its hearer by number alone, and the court may have fewer of them by now. */
    private boolean holdsHearer(Shelf shelf) {
        return shelf.holds == Shelf.HEARER_NUMBER && isHearer(shelf.hearer);
    }

    private static boolean isUnder(int kind, int as) {
        switch (kind) {
            case ELDER: return as == ELDER || as == JUDGE || as == HEARER;
            case LIAR: return as == LIAR || as == ADVOCATE || as == HEARER;
            default: return as == kind || as == HEARER;
        }
    }

    private static int replaced(int[] row, int i, int v, int most) {
        if (!within(v, 0, most)) {
            return BAD;
        }
        int was = row[i];
        row[i] = v;
        return was;
    }

    /** The one court to try things on, made like the present one again at each call. */
    private Court tried() {
        trial.become(now);
        return trial;
    }

    /** The other hearers need not listen: none changes what another one feels. */
    private static int rightInTheEnd(Court tried, int hearer) {
        tried.sayMore(MOST_SAYINGS, only(hearer));
        return tried.rightOf(hearer);
    }

    private static int sayNextTried(Court tried) {
        int raisedSet = tried.raisedNext(EVERYONE);
        tried.sayNext(raisedSet);
        return raisedSet;
    }

    private int alike() {
        Court tried = tried();
        tried.sayMore(MOST_SAYINGS, EVERYONE);
        int most = 0;
        for (int h = 0; h < tried.hearers; h++) {
            most = Math.max(most, tried.sameArms(tried.arms[h]));
        }
        return most;
    }

    private boolean mightBeSo(Sheet sheet, int hearer, int tender) {
        Court tried = tried();
        tried.tenders[hearer] = tender;
        int steps = Math.min(sheet.size, tried.left());
        for (int i = 0; i < steps; i++) {
            int raisedSet = tried.raisedNext(only(hearer));
            tried.sayNext(raisedSet);
            long outcome = raisedSet == 0 ? 0 : 1;
            if (sheet.items[i] != -1 && sheet.items[i] != outcome) {
                return false;
            }
        }
        return true;
    }

    private static long waysToChoose(int n, int k) {
        long ways = 1;
        for (int i = 1; i <= k; i++) {
            ways = ways * (n - k + i) / i;
        }
        return ways;
    }

    private static long power(long base, int exponent) {
        long product = 1;
        for (int i = 0; i < exponent; i++) {
            product *= base;
        }
        return product;
    }

    private static long partOfFraction(long above, long below, int part) {
        long divisor = Math.max(1, commonDivisor(above, below));
        return part == 0 ? above / divisor : below / divisor;
    }

    private static long commonDivisor(long a, long b) {
        long high = a;
        long low = b;
        // Euclid's way is far below 200 steps for any two longs
        for (int i = 0; i < 200 && low != 0; i++) {
            long rest = high % low;
            high = low;
            low = rest;
        }
        return high;
    }

    /** All that a text tells, that is kept, and that is tried. */
    private static final class Court {
        final int[] laws = LAWS_AT_FIRST.clone();
        int sayings = 0;
        int said = 0;
        final int[] topics = new int[MOST_SAYINGS];
        final int[] heats = new int[MOST_SAYINGS];
        final int[] sworn = new int[MOST_SAYINGS];
        int hearers = 0;
        final int[] kinds = new int[MOST_HEARERS];
        final int[] tenders = new int[MOST_HEARERS];
        final int[] topicsInMind = new int[MOST_HEARERS];
        final int[] arms = new int[MOST_HEARERS];
        int z = 1;

        void begin() {
            System.arraycopy(LAWS_AT_FIRST, 0, laws, 0, laws.length);
            sayings = 0;
            said = 0;
            hearers = 0;
        }

        void become(Court other) {
            System.arraycopy(other.laws, 0, laws, 0, laws.length);
            sayings = other.sayings;
            said = other.said;
            System.arraycopy(other.topics, 0, topics, 0, MOST_SAYINGS);
            System.arraycopy(other.heats, 0, heats, 0, MOST_SAYINGS);
            System.arraycopy(other.sworn, 0, sworn, 0, MOST_SAYINGS);
            hearers = other.hearers;
            System.arraycopy(other.kinds, 0, kinds, 0, MOST_HEARERS);
            System.arraycopy(other.tenders, 0, tenders, 0, MOST_HEARERS);
            System.arraycopy(other.topicsInMind, 0, topicsInMind, 0, MOST_HEARERS);
            System.arraycopy(other.arms, 0, arms, 0, MOST_HEARERS);
            z = other.z;
        }

        boolean addSaying(int topic, int heat, int so) {
            if (sayings >= MOST_SAYINGS) {
                return false;
            }
            topics[sayings] = topic;
            heats[sayings] = heat;
            sworn[sayings] = so;
            sayings++;
            return true;
        }

        boolean addHearer(int kind, int tender, int mind) {
            if (hearers >= MOST_HEARERS) {
                return false;
            }
            kinds[hearers] = kind;
            tenders[hearers] = tender;
            topicsInMind[hearers] = mind;
            arms[hearers] = 0;
            hearers++;
            return true;
        }

        int left() {
            return sayings - said;
        }

        int shivers(int hearer, int saying) {
            boolean inMind = has(topicsInMind[hearer], topics[saying]);
            boolean so = sworn[saying] == 1;
            int plain = heats[saying] + (inMind ? tenders[hearer] : 0);
            int underOath = plain + (so ? laws[OATH] : 0);
            switch (kinds[hearer]) {
                case JUDGE: return underOath;
                case ELDER: return underOath * 2;
                case ADVOCATE: return plain - 2;
                case LIAR: return plain - 2 + (so ? 0 : 9);
                case HORSE: return saying % 2 == 0 ? plain : 0;
                default: return plain;
            }
        }

        int needs(int hearer) {
            int plain = 6 + laws[COLD];
            switch (kinds[hearer]) {
                case JUDGE: return plain + 2;
                case ELDER: return plain + 2 + tenders[hearer] / 10;
                case ADVOCATE: return plain - 3;
                case LIAR: return plain - 3 - laws[COLD];
                case HORSE: return plain * 2;
                default: return plain;
            }
        }

        int wears(int hearer) {
            int plain = laws[WEAR];
            switch (kinds[hearer]) {
                case ELDER: return plain * 2;
                case ADVOCATE: return plain - 2;
                case LIAR: return plain - 3;
                case HORSE: return 0;
                default: return plain;
            }
        }

        /** Whom of those who listen the next saying raises; nobody, if none is left. */
        int raisedNext(int listeners) {
            int set = 0;
            for (int h = 0; h < hearers && said < sayings; h++) {
                if (has(listeners, h) && shivers(h, said) >= needs(h)) {
                    set |= only(h);
                }
            }
            return set;
        }

        void sayNext(int raisedSet) {
            for (int h = 0; h < hearers; h++) {
                if (has(raisedSet, h)) {
                    arms[h] |= only(said);
                    tenders[h] = heldTender(tenders[h] - wears(h));
                }
            }
            said++;
        }

        int sayMore(int n, int listeners) {
            int more = Math.min(n, left());
            for (int i = 0; i < more; i++) {
                sayNext(raisedNext(listeners));
            }
            return more;
        }

        private int draws() {
            z = z * 1103515245 + 12345;
            return z >>> 16;
        }

        /** Whom a draught raises, as a set: one or nobody; nothing is drawn where nobody hears. */
        int drawnSet() {
            if (hearers == 0) {
                return 0;
            }
            int one = draws() % hearers;
            return draws() % 100 < laws[DRAUGHT] ? only(one) : 0;
        }

        int raisedBy(int saying) {
            int set = 0;
            for (int h = 0; h < hearers; h++) {
                if (has(arms[h], saying)) {
                    set |= only(h);
                }
            }
            return set;
        }

        int rightOf(int hearer) {
            int count = 0;
            for (int s = 0; s < sayings; s++) {
                if (has(arms[hearer], s) == (sworn[s] == 1)) {
                    count++;
                }
            }
            return count;
        }

        int swornSet() {
            int set = 0;
            for (int s = 0; s < sayings; s++) {
                if (sworn[s] == 1) {
                    set |= only(s);
                }
            }
            return set;
        }

        int tenderOfAll() {
            int sum = 0;
            for (int h = 0; h < hearers; h++) {
                sum += tenders[h];
            }
            return sum;
        }

        int marked() {
            int set = 0;
            for (int h = 0; h < hearers; h++) {
                if (arms[h] != 0) {
                    set |= only(h);
                }
            }
            return set;
        }

        int sameArms(int arm) {
            int count = 0;
            for (int h = 0; h < hearers; h++) {
                if (arms[h] == arm) {
                    count++;
                }
            }
            return count;
        }

        int armsTogether(int set) {
            int together = 0;
            for (int h = 0; h < hearers; h++) {
                if (has(set, h)) {
                    together |= arms[h];
                }
            }
            return together;
        }

        void changePlaces(int one, int other) {
            swaps(topics, one, other);
            swaps(heats, one, other);
            swaps(sworn, one, other);
        }

        private static void swaps(int[] row, int one, int other) {
            int was = row[one];
            row[one] = row[other];
            row[other] = was;
        }
    }

    /** The bytes of the text, and the reading of it: the present word stands from start to end. */
    private static final class Tape {
        private static final int END = 0, NAME = 1, NUMBER = 2, STOP = 3, OTHER = 4;
        private static final int MOST_DIGITS = 3;
        private static final int TOO_MUCH = 1000;

        final byte[] bytes = new byte[MOST_BYTES];
        int length = 0;
        private int start = 0;
        private int end = 0;
        private int sort = END;
        private int value = 0;
        private int fault = NONE;

        boolean takes(long eight, int n) {
            if (length + n > MOST_BYTES) {
                return false;
            }
            for (int i = 0; i < n; i++) {
                bytes[length] = (byte) (eight >>> (8 * i));
                length++;
            }
            return true;
        }

        /** Tells the text to a court that is as at first; answers the fault, or below 0 if there is none. */
        int tells(Court court) {
            end = 0;
            fault = NONE;
            goesOn();
            for (int i = 0; i <= MOST_BYTES && sort != END && fault < 0; i++) {
                tellsOne(court);
            }
            return fault;
        }

        private void tellsOne(Court court) {
            int kind = kindNamed();
            int law = lawNamed();
            if (isName("say")) {
                tellsSaying(court);
            } else if (kind >= 0) {
                tellsHearer(court, kind);
            } else if (law >= 0) {
                goesOn();
                court.laws[law] = number(MOST_OF_LAW[law]);
            } else {
                fails();
            }
            stops();
        }

        private void tellsSaying(Court court) {
            if (court.sayings >= MOST_SAYINGS) {
                fails();
                return;
            }
            goesOn();
            int topic = number(MOST_TOPIC);
            int heat = numberAfter("heat", MOST_HEAT, 5);
            int so = 0;
            if (isName("so")) {
                so = 1;
                goesOn();
            }
            court.addSaying(topic, heat, so);
        }

        private void tellsHearer(Court court, int kind) {
            if (court.hearers >= MOST_HEARERS) {
                fails();
                return;
            }
            goesOn();
            int tender = numberAfter("tender", MOST_TENDER, 3);
            int mind = numberAfter("minds", MOST_MIND, MOST_MIND);
            court.addHearer(kind, tender, mind);
        }

        private int numberAfter(String name, int most, int without) {
            if (!isName(name)) {
                return without;
            }
            goesOn();
            return number(most);
        }

        private int number(int most) {
            if (sort != NUMBER || value > most) {
                fails();
                return 0;
            }
            int v = value;
            goesOn();
            return v;
        }

        private void stops() {
            if (sort == STOP) {
                goesOn();
            } else {
                fails();
            }
        }

        /** Only the first fault counts: what is read behind it means nothing. */
        private void fails() {
            if (fault < 0) {
                fault = start;
            }
        }

        private void goesOn() {
            start = end;
            while (start < length && bytes[start] == ' ') {
                start++;
            }
            end = start;
            if (start >= length) {
                sort = END;
            } else if (isLetter(bytes[start])) {
                sort = NAME;
                while (end < length && isLetter(bytes[end])) {
                    end++;
                }
            } else if (isDigit(bytes[start])) {
                sort = NUMBER;
                value = 0;
                while (end < length && isDigit(bytes[end])) {
                    value = end - start < MOST_DIGITS ? value * 10 + bytes[end] - '0' : TOO_MUCH;
                    end++;
                }
            } else {
                sort = bytes[start] == ';' ? STOP : OTHER;
                end = start + 1;
            }
        }

        private static boolean isLetter(byte b) {
            return b >= 'a' && b <= 'z';
        }

        private static boolean isDigit(byte b) {
            return b >= '0' && b <= '9';
        }

        private boolean isName(String name) {
            if (sort != NAME || end - start != name.length()) {
                return false;
            }
            for (int i = 0; i < name.length(); i++) {
                if (bytes[start + i] != name.charAt(i)) {
                    return false;
                }
            }
            return true;
        }

        private int kindNamed() {
            if (isName("hearer")) {
                return HEARER;
            }
            if (isName("judge")) {
                return JUDGE;
            }
            if (isName("advocate")) {
                return ADVOCATE;
            }
            if (isName("elder")) {
                return ELDER;
            }
            if (isName("liar")) {
                return LIAR;
            }
            return isName("horse") ? HORSE : NONE;
        }

        private int lawNamed() {
            if (isName("cold")) {
                return COLD;
            }
            if (isName("oath")) {
                return OATH;
            }
            if (isName("wear")) {
                return WEAR;
            }
            return isName("draught") ? DRAUGHT : NONE;
        }
    }

    /** A row of numbers of one sort, or a missing one. */
    private static final class Sheet {
        static final int MISSING = -1, BYTES = 0, SHORTS = 1, INTS = 2, LONGS = 3;

        int sort = MISSING;
        int size = 0;
        final long[] items = new long[MOST_ITEMS];

        boolean isMissing() {
            return sort == MISSING;
        }

        void becomes(int newSort, int newSize) {
            sort = newSort;
            size = newSize;
            for (int i = 0; i < MOST_ITEMS; i++) {
                items[i] = 0;
            }
        }

        long narrowed(int v) {
            switch (sort) {
                case BYTES: return (byte) v;
                case SHORTS: return (short) v;
                default: return v;
            }
        }
    }

    /** Holds a row's sort and size of its own: the row stays what it was when its sheet becomes another one. */
    private static final class Shelf {
        static final int EMPTY = 0, HEARER_NUMBER = 1, ROW = 2;

        int holds = EMPTY;
        int hearer = 0;
        int sort = 0;
        int size = 0;

        void empties() {
            holds = EMPTY;
        }

        void takesHearer(int number) {
            holds = HEARER_NUMBER;
            hearer = number;
        }

        void takesRow(Sheet sheet) {
            holds = sheet.isMissing() ? EMPTY : ROW;
            sort = sheet.sort;
            size = sheet.size;
        }
    }

    /** One act of a thing, and which bodies ran in it. */
    private static final class Deed {
        private static final int MOST_DEEP = 40;
        // by kind: which body a thing of it shakes, reads, parts and swears with
        private static final int[] SHAKING = {10, 10, 30, 51, 40, 10};
        private static final int[] READING = {11, 20, 11, 20, 41, 11};
        private static final int[] PARTING = {12, 12, 12, 50, 12, 61};
        private static final int[] SWEARING = {13, 13, 31, 13, 31, 60};

        final int[] bodies = new int[MOST_BODIES];
        int count = 0;
        boolean partedByZero = false;
        private int kind = HEARER;
        private int number = 0;
        private int tender = 0;

        void begin(int ofKind, int ofNumber, int ofTender) {
            kind = ofKind;
            number = ofNumber;
            tender = ofTender;
            count = 0;
            partedByZero = false;
        }

        static int bodyOf(int kind, int act) {
            if (!isKind(kind)) {
                return NONE;
            }
            switch (act) {
                case SHAKES: return SHAKING[kind];
                case READS: return READING[kind];
                case PARTS: return PARTING[kind];
                default: return SWEARING[kind];
            }
        }

        /** Super is a body by its number, an act without super goes by the kind; behind a parting by 0 none begins. */
        private static int runs(Deed deed, int body, int x, int depth) {
            if (deed.partedByZero || depth > MOST_DEEP) {
                return 0;
            }
            deed.notes(body);
            int deeper = depth + 1;
            switch (body) {
                case 10: return x * 5 + deed.number;
                case 11: return runs(deed, SHAKING[deed.kind], x, deeper) - deed.tender;
                case 12: return deed.quotient(x);
                case 13: return runs(deed, READING[deed.kind], x, deeper) ^ 150;
                case 20: return runs(deed, 11, x, deeper) * 2;
                case 30: return runs(deed, 10, x, deeper) - 4;
                case 31: return runs(deed, 13, x, deeper) + runs(deed, PARTING[deed.kind], deed.number, deeper);
                case 40: return 0 - runs(deed, 30, x, deeper);
                case 41: return runs(deed, 11, x, deeper) ^ runs(deed, SHAKING[deed.kind], deed.tender, deeper);
                case 50: return runs(deed, 12, x * 3, deeper) + 2;
                case 51: return runs(deed, 10, x, deeper) + deed.tender;
                case 60: return runs(deed, 13, x, deeper) * 2;
                case 61: return runs(deed, 12, x, deeper) - runs(deed, SHAKING[deed.kind], deed.number, deeper);
                default: return 0;
            }
        }

        private void notes(int body) {
            if (count < MOST_BODIES) {
                bodies[count] = body;
                count++;
            }
        }

        private int quotient(int x) {
            int divisor = tender - number;
            if (divisor == 0) {
                partedByZero = true;
                return 0;
            }
            return x / divisor;
        }
    }
}
