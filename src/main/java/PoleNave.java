/**
 * A nave of poles that people go up, by the numbered promises of DOC.md.
 *
 * Every row, table and search is made with the object and used again by its calls, because all calls of a run
 * live in one room: no call makes an object.
 */
public final class PoleNave {
    public static final int BAD = -1, FULL = -2, FINDING = -3, STATE = -4, SPENT = -6, NONE = -9;

    private static final int NOTHING = 1, BEYOND = 2, UNLIKE = 3, NOUGHT = 4, SIZE = 5;
    private static final int ROWS = 6, ROW_PLACES = 40, TEXTS = 4, TEXT_PLACES = 60, MISSING = -1;
    private static final int POLES = 4, PEOPLE = 5, NAVES_KEPT = 3, DEEDS = 40;
    private static final int KINDS = 6, PLAIN = 0, ROTTEN = 1, LACED = 2, SPLICED = 3, RIDGE = 4, OAK = 5;
    private static final int MOST_STRONG = 60, MOST_WEAR = 20, MOST_LOAD = 99;
    private static final int MOST_YEARS = 40, MOST_LACINGS = 5, MOST_TURNS = 4, MOST_LOTS = 20;
    private static final int OF_POLE = 8, OF_ONE = 4, COUNTS = 12, TWELVE = 12, ABOVE_ALL = 1000;
    private static final int LAST_SEED = 2147483646;
    private static final long LOT_FACTOR = 48271L, LOT_MODULUS = 2147483647L;
    private static final int BLANK = 32, PERSON = 109, FIGURE_0 = 48, FIGURE_9 = 57;
    private static final int[] KIND_LETTERS = {112, 114, 108, 115, 100, 107};
    private static final int GO_UP = 0, COME_DOWN = 1, LACING = 2, BRING_STONE = 3, PASS_YEAR = 4;

    private final Row[] rows = new Row[ROWS];
    private final Row[] texts = new Row[TEXTS];
    private final Plan plan = new Plan();
    private final Plan draft = new Plan();
    private final Scaffold now = new Scaffold(plan);
    private final Scaffold aside = new Scaffold(plan);
    private final Deeds deeds = new Deeds();
    private final Deeds[] keptDeeds = new Deeds[NAVES_KEPT];
    private final Seating seating = new Seating(plan);
    private final Lacings lacings = new Lacings(plan);
    private final Schools schools = new Schools(plan);
    private final int[] answered = new int[SIZE + 1];
    private int latestFinding;
    private int told;
    private long toldUpper;
    private long toldLower = 1;

    public PoleNave() {
        for (int r = 0; r < rows.length; r++) {
            rows[r] = new Row();
        }
        for (int t = 0; t < texts.length; t++) {
            texts[t] = new Row();
        }
        for (int k = 0; k < keptDeeds.length; k++) {
            keptDeeds[k] = new Deeds();
            keptDeeds[k].size = MISSING;
        }
    }

    // ---- 1 rows, texts, naves

    public int row(int r, int n) {
        return begin(rowAt(r), n, ROW_PLACES, 0);
    }

    public int lay(int r, int i, int v) {
        Row row = rowAt(r);
        if (row == null) {
            return BAD;
        }
        int finding = row.findingAt(i);
        if (finding != 0) {
            return found(finding);
        }
        int was = row.get(i);
        row.set(i, v);
        return tell(was);
    }

    public int at(int r, int i) {
        Row row = rowAt(r);
        if (row == null) {
            return BAD;
        }
        int finding = row.findingAt(i);
        return finding != 0 ? found(finding) : tell(row.get(i));
    }

    public int tear(int r) {
        Row row = rowAt(r);
        if (row == null) {
            return BAD;
        }
        if (row.isMissing()) {
            return found(NOTHING);
        }
        row.size = MISSING;
        return 1;
    }

    public int copy(int r, int i, int to, int j, int n) {
        Row from = rowAt(r);
        Row onto = rowAt(to);
        if (from == null || onto == null) {
            return BAD;
        }
        if (n < 0) {
            return found(SIZE);
        }
        if (from.isMissing() || onto.isMissing()) {
            return found(NOTHING);
        }
        if (!from.hasRun(i, n) || !onto.hasRun(j, n)) {
            return found(BEYOND);
        }
        System.arraycopy(from.places, i, onto.places, j, n);
        return 1;
    }

    public int mean(int r) {
        Row row = rowAt(r);
        if (row == null) {
            return BAD;
        }
        if (row.isMissing()) {
            return found(NOTHING);
        }
        if (row.size == 0) {
            return found(NOUGHT);
        }
        long sum = 0;
        for (int i = 0; i < row.size; i++) {
            sum += row.get(i);
        }
        return tell((int) (sum / row.size));
    }

    public int text(int t, int n) {
        return begin(textAt(t), n, TEXT_PLACES, BLANK);
    }

    public int put(int t, int i, int v) {
        Row text = textAt(t);
        if (text == null) {
            return BAD;
        }
        int finding = text.findingAt(i);
        if (finding != 0) {
            return found(finding);
        }
        int was = text.get(i);
        text.set(i, (byte) v);
        return was + 1000;
    }

    public int fault(int t) {
        Row text = textAt(t);
        if (text == null) {
            return BAD;
        }
        return text.isMissing() ? found(NOTHING) : draft.read(text);
    }

    public int nave(int t) {
        Row text = textAt(t);
        if (text == null) {
            return BAD;
        }
        if (text.isMissing()) {
            return found(NOTHING);
        }
        if (draft.read(text) != NONE) {
            return STATE;
        }
        plan.read(text);
        now.begin();
        deeds.size = 0;
        for (int k = 0; k < keptDeeds.length; k++) {
            keptDeeds[k].size = MISSING;
        }
        return plan.poles;
    }

    public int pole(int k, int what) {
        if (!plan.isPole(k) || what < 0 || what >= OF_POLE) {
            return BAD;
        }
        return tell(now.ofPole(k, what));
    }

    public int one(int i, int what) {
        if (!plan.isOne(i) || what < 0 || what >= OF_ONE) {
            return BAD;
        }
        return tell(now.ofOne(i, what));
    }

    public int mark(int k, int kind) {
        if (!plan.isPole(k) || kind < ROTTEN || kind > OAK) {
            return BAD;
        }
        if (!isOfKind(plan.kinds[k], kind)) {
            return found(UNLIKE);
        }
        int own = now.bearsNow(k);
        switch (kind) {
            case ROTTEN:
                return now.bearsAs(k, PLAIN) - own;
            case LACED:
                return 100 + own - now.bearsAs(k, PLAIN);
            case SPLICED:
                return now.bearsAs(k, LACED) - own;
            case RIDGE:
                return own - now.bearsAs(k, LACED);
            default:
                return own - now.bearsAs(k, ROTTEN);
        }
    }

    public int bears(int k, int wear) {
        if (!plan.isPole(k) || wear < 0 || wear > MOST_WEAR) {
            return BAD;
        }
        return plan.bearsWith(k, wear);
    }

    // ---- 2 deeds

    public int sit(int i, int k) {
        if (!plan.isOne(i) || !plan.isPole(k)) {
            return BAD;
        }
        if (now.isSeated(i) || !now.isUp(k)) {
            return STATE;
        }
        return perform(deed(GO_UP, i, k));
    }

    public int down(int i) {
        if (!plan.isOne(i)) {
            return BAD;
        }
        return now.isSeated(i) ? perform(deed(COME_DOWN, i, 0)) : STATE;
    }

    public int lace(int k) {
        if (!plan.isPole(k)) {
            return BAD;
        }
        return now.isUp(k) ? perform(deed(LACING, 0, k)) : STATE;
    }

    public int stone() {
        return plan.isEmpty() ? STATE : perform(deed(BRING_STONE, 0, 0));
    }

    public int year() {
        return plan.isEmpty() ? STATE : perform(deed(PASS_YEAR, 0, 0));
    }

    public int undo(int n) {
        if (n < 0 || n > deeds.size) {
            return BAD;
        }
        int undone = deeds.size - n;
        deeds.size = n;
        now.replay(deeds);
        return undone;
    }

    public int keep(int k) {
        Deeds place = keptAt(k);
        if (place == null) {
            return BAD;
        }
        if (plan.isEmpty()) {
            return STATE;
        }
        place.take(deeds);
        return deeds.size;
    }

    public int on(int k) {
        Deeds place = keptAt(k);
        if (place == null) {
            return BAD;
        }
        if (place.size == MISSING) {
            return found(NOTHING);
        }
        deeds.take(place);
        now.replay(deeds);
        return deeds.size;
    }

    // ---- 3 what holds (aside)

    public int holds() {
        if (plan.isEmpty()) {
            return STATE;
        }
        int excess = 0;
        for (int k = 0; k < plan.poles; k++) {
            if (now.isUp(k)) {
                excess += Math.max(0, now.loadOn(k) - now.bearsNow(k));
            }
        }
        tell(excess);
        return now.standing();
    }

    public int gives(int k) {
        if (!plan.isPole(k)) {
            return BAD;
        }
        if (!now.isUp(k)) {
            return NONE;
        }
        int load = now.loadOn(k);
        int wear = now.wear[k];
        for (int years = 1; years <= MOST_YEARS; years++) {
            if (load > plan.bearsWith(k, wear)) {
                return years;
            }
            wear = worn(wear, load > 0);
        }
        return NONE;
    }

    public int later(int n) {
        if (n < 0 || n > MOST_YEARS) {
            return BAD;
        }
        if (plan.isEmpty()) {
            return STATE;
        }
        aside.take(now);
        for (int years = 0; years < n; years++) {
            aside.passYear();
        }
        tell(aside.fallen);
        return aside.highOfAll();
    }

    // ---- 4 seatings (aside)

    public int best(int r) {
        Row row = rowAt(r);
        if (row == null) {
            return BAD;
        }
        if (plan.isEmpty()) {
            return STATE;
        }
        seating.begin(now);
        Seating.seatHighest(seating, 0, 0);
        row.take(seating.first, plan.people);
        return seating.most;
    }

    public int fewest() {
        if (plan.isEmpty()) {
            return STATE;
        }
        seating.begin(now);
        Seating.seatAll(seating, 0, 0);
        if (seating.fewestUsed == NONE) {
            return NONE;
        }
        tell(seating.fewestUsed);
        return Integer.bitCount(seating.fewestUsed);
    }

    public int seated(int r) {
        Row row = rowAt(r);
        if (row == null) {
            return BAD;
        }
        if (plan.isEmpty()) {
            return STATE;
        }
        if (row.isMissing()) {
            return found(NOTHING);
        }
        if (row.size != plan.people) {
            return found(SIZE);
        }
        aside.take(now);
        for (int i = 0; i < plan.people; i++) {
            int k = row.get(i);
            if (k != NONE && !now.isUp(k)) {
                return found(UNLIKE);
            }
            aside.seats[i] = k;
        }
        tell(aside.highOfAll());
        return Integer.bitCount(aside.up() & ~aside.standing());
    }

    // ---- 5 lacings (aside)

    public int laces(int n, int r) {
        Row row = rowAt(r);
        if (row == null || n < 0 || n > MOST_LACINGS) {
            return BAD;
        }
        if (plan.isEmpty()) {
            return STATE;
        }
        lacings.begin(now, n);
        Lacings.laceOn(lacings, 0, 0);
        if (lacings.fewestLaced > n) {
            return NONE;
        }
        row.take(lacings.first, n);
        return lacings.fewestLaced;
    }

    // ---- 6 what a pole is of

    public int strengths(int k, int r) {
        Row row = rowAt(r);
        if (row == null || !plan.isPole(k)) {
            return BAD;
        }
        int finding = findingOfTriples(row);
        if (finding != 0) {
            return found(finding);
        }
        int many = 0;
        int least = NONE;
        for (int strong = 0; strong <= MOST_STRONG; strong++) {
            if (agrees(row, plan.kinds[k], plan.talls[k], strong)) {
                many++;
                least = least == NONE ? strong : least;
            }
        }
        if (many == 0) {
            return NONE;
        }
        tell(least);
        return many;
    }

    public int kinds(int k, int r) {
        Row row = rowAt(r);
        if (row == null || !plan.isPole(k)) {
            return BAD;
        }
        int finding = findingOfTriples(row);
        return finding != 0 ? found(finding) : kindsBy(row, k);
    }

    public int test(int k, int r) {
        Row row = rowAt(r);
        if (row == null || !plan.isPole(k)) {
            return BAD;
        }
        int finding = findingOfTriples(row);
        if (finding != 0) {
            return found(finding);
        }
        int possible = kindsBy(row, k);
        if (possible == 0) {
            return NONE;
        }
        int first = 0;
        int least = KINDS + 1;
        for (int load = 0; load <= MOST_LOAD; load++) {
            int holding = now.howManyHold(k, possible, load);
            int part = Math.max(holding, Integer.bitCount(possible) - holding);
            if (part < least) {
                least = part;
                first = load;
            }
        }
        tell(least);
        return first;
    }

    // ---- 7 by turns

    public int duel(int n) {
        if (n < 0 || n > MOST_TURNS) {
            return BAD;
        }
        if (plan.isEmpty()) {
            return STATE;
        }
        schools.begin(now);
        return Schools.sendUp(schools, n, -1, ABOVE_ALL);
    }

    // ---- 8 chances, lots

    public int odds(int i, int p) {
        if (!plan.isOne(i) || p < 0 || p > TWELVE) {
            return BAD;
        }
        return tellTwelfths(now.stands(now.seats[i]) ? TWELVE - p : 0);
    }

    public int mid(int p) {
        if (p < 0 || p > TWELVE) {
            return BAD;
        }
        return plan.isEmpty() ? STATE : tellTwelfths(now.highOfStanding() * (TWELVE - p));
    }

    public int lots(int n, int seed) {
        if (n < 1 || n > MOST_LOTS || seed < 1 || seed > LAST_SEED) {
            return BAD;
        }
        if (plan.isEmpty()) {
            return STATE;
        }
        if (deeds.size + n > DEEDS) {
            return FULL;
        }
        long lot = seed;
        for (int j = 0; j < n; j++) {
            lot = lot * LOT_FACTOR % LOT_MODULUS;
            perform(deedByLot((int) lot));
        }
        return now.highOfAll();
    }

    // ---- 9 what is told

    public int asked() {
        return told;
    }

    public long upper() {
        return toldUpper;
    }

    public long lower() {
        return toldLower;
    }

    public int count(int what) {
        return what < 0 || what >= COUNTS ? BAD : tally(what);
    }

    public int finding() {
        return latestFinding;
    }

    public int findings(int f) {
        return f < NOTHING || f > SIZE ? BAD : answered[f];
    }

    public long digest() {
        long h = 17;
        for (int what = 0; what < COUNTS; what++) {
            h = 31 * h + tally(what);
        }
        for (int k = 0; k < plan.poles; k++) {
            for (int what = 0; what < OF_POLE; what++) {
                h = 31 * h + now.ofPole(k, what);
            }
        }
        for (int i = 0; i < plan.people; i++) {
            for (int what = 0; what < OF_ONE; what++) {
                h = 31 * h + now.ofOne(i, what);
            }
        }
        for (int k = 0; k < keptDeeds.length; k++) {
            h = 31 * h + keptDeeds[k].size;
        }
        return digestRows(digestRows(h, rows), texts);
    }

    // ---- places, findings, what is told

    private Row rowAt(int r) {
        return r >= 0 && r < rows.length ? rows[r] : null;
    }

    private Row textAt(int t) {
        return t >= 0 && t < texts.length ? texts[t] : null;
    }

    private Deeds keptAt(int k) {
        return k >= 0 && k < keptDeeds.length ? keptDeeds[k] : null;
    }

    private int begin(Row row, int n, int most, int filling) {
        if (row == null || n > most) {
            return BAD;
        }
        if (n < 0) {
            return found(SIZE);
        }
        row.fill(n, filling);
        return n;
    }

    private int found(int finding) {
        if (finding >= NOTHING && finding <= SIZE) {
            latestFinding = finding;
            answered[finding]++;
        }
        return FINDING;
    }

    private int tell(int v) {
        told = v;
        return 1;
    }

    /** Every chance and mean is told by twelfths, so a common divisor is one of 12. */
    private int tellTwelfths(int twelfths) {
        int divisor = TWELVE;
        while (divisor > 1 && (twelfths % divisor != 0 || TWELVE % divisor != 0)) {
            divisor--;
        }
        toldUpper = twelfths / divisor;
        toldLower = TWELVE / divisor;
        return 1;
    }

    private int tally(int what) {
        switch (what) {
            case 0:
                return plan.poles;
            case 1:
                return plan.people;
            case 2:
                return deeds.size;
            case 3:
                return now.years;
            case 4:
                return now.fallen;
            case 5:
                return now.seatedPeople();
            case 6:
                return now.highOfAll();
            case 7:
                return now.stones;
            case 8:
                return howManyThere(rows);
            case 9:
                return howManyThere(texts);
            case 10:
                return howManyKept();
            default:
                return plan.howManyLaced();
        }
    }

    private int howManyKept() {
        int many = 0;
        for (int k = 0; k < keptDeeds.length; k++) {
            many += keptDeeds[k].size == MISSING ? 0 : 1;
        }
        return many;
    }

    private static int howManyThere(Row[] all) {
        int many = 0;
        for (int r = 0; r < all.length; r++) {
            many += all[r].isMissing() ? 0 : 1;
        }
        return many;
    }

    private static long digestRows(long h, Row[] all) {
        for (int r = 0; r < all.length; r++) {
            h = 31 * h + all[r].size;
            for (int i = 0; i < all[r].size; i++) {
                h = 31 * h + all[r].get(i);
            }
        }
        return h;
    }

    // ---- deeds

    private static int deed(int what, int i, int k) {
        return what * 100 + i * 10 + k;
    }

    /** FULL comes behind all else that refuses a deed, so it is looked at here, last. */
    private int perform(int deed) {
        if (deeds.size >= DEEDS) {
            return FULL;
        }
        deeds.add(deed);
        return now.apply(deed);
    }

    private int deedByLot(int lot) {
        if (lot % 3 == 0 || plan.people < 1 || plan.poles < 1) {
            return deed(PASS_YEAR, 0, 0);
        }
        int i = lot / 8 % plan.people;
        int k = lot / 64 % plan.poles;
        if (now.isSeated(i)) {
            return deed(COME_DOWN, i, 0);
        }
        return now.isUp(k) ? deed(GO_UP, i, k) : deed(BRING_STONE, 0, 0);
    }

    // ---- kinds

    private static boolean isOfKind(int kind, int wanted) {
        return kind == wanted
            || wanted == ROTTEN && kind == OAK
            || wanted == LACED && (kind == SPLICED || kind == RIDGE);
    }

    private static int bearing(int kind, int tall, int strong, int wear) {
        int plain = Math.max(0, strong - 2 * wear);
        int rotten = wear >= 3 ? plain - plain / 3 : plain;
        int laced = Math.max(0, strong - wear);
        switch (kind) {
            case ROTTEN:
                return rotten;
            case LACED:
                return laced;
            case SPLICED:
                return Math.max(0, laced - 5);
            case RIDGE:
                return laced + 2 * tall;
            case OAK:
                return tall <= 5 ? plain : rotten;
            default:
                return plain;
        }
    }

    private static int worn(int wear, boolean laden) {
        return Math.min(MOST_WEAR, wear + (laden ? 2 : 1));
    }

    // ---- what a pole is of

    private static int findingOfTriples(Row row) {
        if (row.isMissing()) {
            return NOTHING;
        }
        if (row.size % 3 != 0) {
            return SIZE;
        }
        for (int i = 0; i < row.size; i += 3) {
            if (!isWithin(row.get(i), MOST_WEAR) || !isWithin(row.get(i + 1), MOST_LOAD)
                    || !isWithin(row.get(i + 2), 1)) {
                return UNLIKE;
            }
        }
        return 0;
    }

    private static boolean isWithin(int v, int most) {
        return v >= 0 && v <= most;
    }

    private static boolean agrees(Row triples, int kind, int tall, int strong) {
        for (int i = 0; i < triples.size; i += 3) {
            boolean held = bearing(kind, tall, strong, triples.get(i)) >= triples.get(i + 1);
            if (held != (triples.get(i + 2) == 1)) {
                return false;
            }
        }
        return true;
    }

    private int kindsBy(Row triples, int k) {
        int bits = 0;
        for (int kind = 0; kind < KINDS; kind++) {
            if (agrees(triples, kind, plan.talls[k], plan.strongs[k])) {
                bits |= 1 << kind;
            }
        }
        return bits;
    }

    /** A row of ints, there or missing. Texts are such rows, too, with a byte in each place. */
    private static final class Row {
        final int[] places = new int[TEXT_PLACES];
        int size = MISSING;

        boolean isMissing() {
            return size < 0;
        }

        boolean has(int i) {
            return i >= 0 && i < size && i < places.length;
        }

        boolean hasRun(int i, int n) {
            return i >= 0 && n >= 0 && i <= size - n;
        }

        int findingAt(int i) {
            if (isMissing()) {
                return NOTHING;
            }
            return has(i) ? 0 : BEYOND;
        }

        int get(int i) {
            return has(i) ? places[i] : 0;
        }

        void set(int i, int v) {
            if (has(i)) {
                places[i] = v;
            }
        }

        void fill(int n, int v) {
            size = Math.min(n, places.length);
            for (int i = 0; i < size; i++) {
                places[i] = v;
            }
        }

        void take(int[] from, int n) {
            fill(Math.min(n, from.length), 0);
            for (int i = 0; i < size; i++) {
                places[i] = from[i];
            }
        }
    }

    /** What a text tells of a nave: its poles and people, which no deed changes. */
    private static final class Plan {
        final int[] kinds = new int[POLES];
        final int[] talls = new int[POLES];
        final int[] strongs = new int[POLES];
        final int[] weights = new int[PEOPLE];
        final int[] devouts = new int[PEOPLE];
        int poles;
        int people;

        boolean isEmpty() {
            return poles == 0;
        }

        boolean isPole(int k) {
            return k >= 0 && k < poles && k < POLES;
        }

        boolean isOne(int i) {
            return i >= 0 && i < people && i < PEOPLE;
        }

        /** Answers the text's fault, or NONE; behind a fault, the plan is good for nothing. */
        int read(Row text) {
            poles = 0;
            people = 0;
            int i = 0;
            while (i < text.size) {
                int sign = text.get(i);
                int fault = NONE;
                if (sign == BLANK) {
                    i++;
                } else if (sign == PERSON) {
                    fault = readOne(text, i);
                    i += 3;
                } else {
                    fault = readPole(text, i, kindOf(sign));
                    i += 4;
                }
                if (fault != NONE) {
                    return fault;
                }
            }
            return poles == 0 || people == 0 ? text.size : NONE;
        }

        /** A figure missing at the text's end is a fault at its size, which is the place asked for. */
        private int readPole(Row text, int i, int kind) {
            int tall = figure(text, i + 1);
            int tens = figure(text, i + 2);
            int units = figure(text, i + 3);
            if (kind < 0 || poles >= POLES) {
                return i;
            }
            if (tall < 1) {
                return i + 1;
            }
            if (tens < 0) {
                return i + 2;
            }
            if (units < 0) {
                return i + 3;
            }
            if (10 * tens + units > MOST_STRONG) {
                return i + 2;
            }
            kinds[poles] = kind;
            talls[poles] = tall;
            strongs[poles] = 10 * tens + units;
            poles++;
            return NONE;
        }

        private int readOne(Row text, int i) {
            int weight = figure(text, i + 1);
            int devout = figure(text, i + 2);
            if (people >= PEOPLE) {
                return i;
            }
            if (weight < 1) {
                return i + 1;
            }
            if (devout < 0) {
                return i + 2;
            }
            weights[people] = weight;
            devouts[people] = devout;
            people++;
            return NONE;
        }

        private static int figure(Row text, int i) {
            int sign = text.get(i);
            return sign >= FIGURE_0 && sign <= FIGURE_9 ? sign - FIGURE_0 : -1;
        }

        private static int kindOf(int letter) {
            for (int kind = 0; kind < KIND_LETTERS.length; kind++) {
                if (KIND_LETTERS[kind] == letter) {
                    return kind;
                }
            }
            return -1;
        }

        /** How high one would sit: 0 where k is no pole, the ground. */
        int highOn(int i, int k) {
            if (i < 0 || i >= people || k < 0 || k >= poles) {
                return 0;
            }
            return devouts[i] < talls[k] ? devouts[i] : talls[k];
        }

        int loadBy(int i, int k) {
            return isOne(i) ? weights[i] + highOn(i, k) / 2 : 0;
        }

        int bearsWith(int k, int wear) {
            return isPole(k) ? bearing(kinds[k], talls[k], strongs[k], wear) : 0;
        }

        int howManyLaced() {
            int many = 0;
            for (int k = 0; k < poles; k++) {
                many += isOfKind(kinds[k], LACED) ? 1 : 0;
            }
            return many;
        }
    }

    /** Deeds by number, as Scaffold.apply() reads them; a kept nave's size is MISSING while there is none. */
    private static final class Deeds {
        final int[] codes = new int[DEEDS];
        int size;

        void add(int deed) {
            if (size >= 0 && size < codes.length) {
                codes[size] = deed;
                size++;
            }
        }

        void take(Deeds other) {
            size = other.size;
            for (int j = 0; j < size && j < codes.length; j++) {
                codes[j] = other.codes[j];
            }
        }
    }

    /** A nave at one time: what deeds change. */
    private static final class Scaffold {
        final Plan plan;
        final int[] wear = new int[POLES];
        final int[] seats = new int[PEOPLE];
        int fallen;
        int years;
        int stones;

        Scaffold(Plan plan) {
            this.plan = plan;
        }

        void begin() {
            for (int k = 0; k < wear.length; k++) {
                wear[k] = 0;
            }
            for (int i = 0; i < seats.length; i++) {
                seats[i] = NONE;
            }
            fallen = 0;
            years = 0;
            stones = 0;
        }

        void take(Scaffold other) {
            for (int k = 0; k < wear.length; k++) {
                wear[k] = other.wear[k];
            }
            for (int i = 0; i < seats.length; i++) {
                seats[i] = other.seats[i];
            }
            fallen = other.fallen;
            years = other.years;
            stones = other.stones;
        }

        void replay(Deeds deeds) {
            begin();
            for (int j = 0; j < deeds.size && j < DEEDS; j++) {
                apply(deeds.codes[j]);
            }
        }

        /** Answers what the call of such a deed answers. */
        int apply(int deed) {
            int i = deed / 10 % 10;
            int k = deed % 10;
            switch (deed / 100) {
                case GO_UP:
                    return goUp(i, k);
                case COME_DOWN:
                    return comeDown(i);
                case LACING:
                    return renew(k);
                case BRING_STONE:
                    stones++;
                    return stones;
                default:
                    return passYear();
            }
        }

        private int goUp(int i, int k) {
            if (plan.isOne(i)) {
                seats[i] = k;
            }
            return loadOn(k);
        }

        private int comeDown(int i) {
            if (!plan.isOne(i)) {
                return 0;
            }
            int high = plan.highOn(i, seats[i]);
            seats[i] = NONE;
            return high;
        }

        private int renew(int k) {
            if (!plan.isPole(k)) {
                return 0;
            }
            int was = wear[k];
            wear[k] = 0;
            return was;
        }

        int passYear() {
            int gave = 0;
            for (int k = 0; k < plan.poles; k++) {
                int load = loadOn(k);
                if (isUp(k) && load > bearsNow(k)) {
                    gave |= 1 << k;
                } else if (isUp(k)) {
                    wear[k] = worn(wear[k], load > 0);
                }
            }
            for (int i = 0; i < plan.people; i++) {
                if (isSeated(i) && (gave >> seats[i] & 1) == 1) {
                    seats[i] = NONE;
                }
            }
            fallen |= gave;
            years++;
            return gave;
        }

        boolean isUp(int k) {
            return plan.isPole(k) && (fallen >> k & 1) == 0;
        }

        boolean isSeated(int i) {
            return plan.isOne(i) && seats[i] != NONE;
        }

        boolean stands(int k) {
            return isUp(k) && loadOn(k) <= bearsNow(k);
        }

        int up() {
            return (1 << plan.poles) - 1 & ~fallen;
        }

        int standing() {
            int bits = 0;
            for (int k = 0; k < plan.poles; k++) {
                if (stands(k)) {
                    bits |= 1 << k;
                }
            }
            return bits;
        }

        int loadOn(int k) {
            int load = 0;
            for (int i = 0; i < plan.people; i++) {
                if (seats[i] == k) {
                    load += plan.loadBy(i, k);
                }
            }
            return load;
        }

        int bearsNow(int k) {
            return plan.isPole(k) ? bearing(plan.kinds[k], plan.talls[k], plan.strongs[k], wear[k]) : 0;
        }

        int bearsAs(int k, int kind) {
            return plan.isPole(k) ? bearing(kind, plan.talls[k], plan.strongs[k], wear[k]) : 0;
        }

        int howManyHold(int k, int kinds, int load) {
            int many = 0;
            for (int kind = 0; kind < KINDS; kind++) {
                if ((kinds >> kind & 1) == 1 && bearsAs(k, kind) >= load) {
                    many++;
                }
            }
            return many;
        }

        private int seatedOn(int k) {
            int bits = 0;
            for (int i = 0; i < plan.people; i++) {
                if (seats[i] == k) {
                    bits |= 1 << i;
                }
            }
            return bits;
        }

        int seatedPeople() {
            int bits = 0;
            for (int i = 0; i < plan.people; i++) {
                if (isSeated(i)) {
                    bits |= 1 << i;
                }
            }
            return bits;
        }

        int highOfAll() {
            int high = 0;
            for (int i = 0; i < plan.people; i++) {
                high += plan.highOn(i, seats[i]);
            }
            return high;
        }

        int highOfStanding() {
            int high = 0;
            for (int i = 0; i < plan.people; i++) {
                if (stands(seats[i])) {
                    high += plan.highOn(i, seats[i]);
                }
            }
            return high;
        }

        int ofPole(int k, int what) {
            if (!plan.isPole(k)) {
                return 0;
            }
            switch (what) {
                case 0:
                    return plan.kinds[k];
                case 1:
                    return plan.talls[k];
                case 2:
                    return plan.strongs[k];
                case 3:
                    return wear[k];
                case 4:
                    return bearsNow(k);
                case 5:
                    return loadOn(k);
                case 6:
                    return seatedOn(k);
                default:
                    return fallen >> k & 1;
            }
        }

        int ofOne(int i, int what) {
            if (!plan.isOne(i)) {
                return 0;
            }
            switch (what) {
                case 0:
                    return plan.weights[i];
                case 1:
                    return plan.devouts[i];
                case 2:
                    return seats[i];
                default:
                    return plan.highOn(i, seats[i]);
            }
        }
    }

    /** Seatings anew, tried in rising order (on the ground first), so that the first of like ones is met first. */
    private static final class Seating {
        final Plan plan;
        final int[] spare = new int[POLES];
        final int[] hopes = new int[PEOPLE + 1];
        final int[] seats = new int[PEOPLE];
        final int[] first = new int[PEOPLE];
        int most;
        int fewestUsed;

        Seating(Plan plan) {
            this.plan = plan;
        }

        void begin(Scaffold now) {
            for (int k = 0; k < plan.poles; k++) {
                // nobody weighs nothing, so nobody fits on a pole that is down
                spare[k] = now.isUp(k) ? now.bearsNow(k) : 0;
            }
            hopes[plan.people] = 0;
            for (int i = plan.people - 1; i >= 0; i--) {
                int high = 0;
                for (int k = 0; k < plan.poles; k++) {
                    high = spare[k] > 0 ? Math.max(high, plan.highOn(i, k)) : high;
                }
                hopes[i] = hopes[i + 1] + high;
            }
            most = -1;
            fewestUsed = NONE;
        }

        /** Seats person i and those behind; hopes tell early where no seating can be higher than the highest. */
        private static void seatHighest(Seating s, int i, int high) {
            if (i >= s.plan.people || i >= PEOPLE) {
                if (high > s.most) {
                    s.most = high;
                    System.arraycopy(s.seats, 0, s.first, 0, PEOPLE);
                }
                return;
            }
            if (high + s.hopes[i] <= s.most) {
                return;
            }
            s.seats[i] = NONE;
            seatHighest(s, i + 1, high);
            for (int k = 0; k < s.plan.poles; k++) {
                int load = s.plan.loadBy(i, k);
                if (load <= s.spare[k]) {
                    s.seats[i] = k;
                    s.spare[k] -= load;
                    seatHighest(s, i + 1, high + s.plan.highOn(i, k));
                    s.spare[k] += load;
                }
            }
        }

        /** Seats person i and those behind, nobody on the ground; used tells the poles so far. */
        private static void seatAll(Seating s, int i, int used) {
            if (s.fewestUsed != NONE && Integer.bitCount(used) > Integer.bitCount(s.fewestUsed)) {
                return;
            }
            if (i >= s.plan.people || i >= PEOPLE) {
                s.offer(used);
                return;
            }
            for (int k = 0; k < s.plan.poles; k++) {
                int load = s.plan.loadBy(i, k);
                if (load <= s.spare[k]) {
                    s.spare[k] -= load;
                    seatAll(s, i + 1, used | 1 << k);
                    s.spare[k] += load;
                }
            }
        }

        private void offer(int used) {
            int fewer = Integer.bitCount(used) - Integer.bitCount(fewestUsed);
            if (fewestUsed == NONE || fewer < 0 || fewer == 0 && used < fewestUsed) {
                fewestUsed = used;
            }
        }
    }

    /** Lacings ahead of years, tried in rising order (none first), so that the first of like few is met first. */
    private static final class Lacings {
        final Plan plan;
        final int[][] wear = new int[MOST_LACINGS + 1][POLES];
        final int[] loads = new int[POLES];
        final int[] laced = new int[MOST_LACINGS];
        final int[] first = new int[MOST_LACINGS];
        int up;
        int years;
        int fewestLaced;

        Lacings(Plan plan) {
            this.plan = plan;
        }

        void begin(Scaffold now, int n) {
            up = now.up();
            years = Math.min(n, MOST_LACINGS);
            fewestLaced = years + 1;
            for (int k = 0; k < plan.poles; k++) {
                wear[0][k] = now.wear[k];
                loads[k] = now.loadOn(k);
            }
        }

        private static void laceOn(Lacings s, int year, int many) {
            if (many >= s.fewestLaced) {
                return;
            }
            if (year >= s.years || year >= MOST_LACINGS) {
                s.fewestLaced = many;
                System.arraycopy(s.laced, 0, s.first, 0, MOST_LACINGS);
                return;
            }
            s.laced[year] = NONE;
            if (s.holdsOut(year, NONE)) {
                laceOn(s, year + 1, many);
            }
            for (int k = 0; k < s.plan.poles; k++) {
                s.laced[year] = k;
                if ((s.up >> k & 1) == 1 && s.holdsOut(year, k)) {
                    laceOn(s, year + 1, many + 1);
                }
            }
        }

        /** Whether no pole that is up gives in a year ahead of which one is laced; then the wear behind it stands. */
        private boolean holdsOut(int year, int one) {
            if (year < 0 || year >= MOST_LACINGS) {
                return false;
            }
            for (int k = 0; k < plan.poles; k++) {
                int before = k == one ? 0 : wear[year][k];
                if ((up >> k & 1) == 1 && loads[k] > plan.bearsWith(k, before)) {
                    return false;
                }
                wear[year + 1][k] = worn(before, loads[k] > 0);
            }
            return true;
        }
    }

    /** Two schools by turns. What is sure already (low for the first, top for the second) cuts a look short. */
    private static final class Schools {
        final Plan plan;
        final int[] seats = new int[PEOPLE];
        final int[] loads = new int[POLES];
        final int[] highs = new int[POLES];
        final int[] bearing = new int[POLES];
        int up;

        Schools(Plan plan) {
            this.plan = plan;
        }

        void begin(Scaffold now) {
            up = now.up();
            for (int k = 0; k < plan.poles; k++) {
                loads[k] = 0;
                highs[k] = 0;
                bearing[k] = now.bearsNow(k);
            }
            for (int i = 0; i < plan.people; i++) {
                seats[i] = NONE;
                seat(i, now.seats[i]);
            }
        }

        private void seat(int i, int k) {
            if (plan.isOne(i) && plan.isPole(k)) {
                seats[i] = k;
                loads[k] += plan.loadBy(i, k);
                highs[k] += plan.highOn(i, k);
            }
        }

        private int unseat(int i) {
            int k = plan.isOne(i) ? seats[i] : NONE;
            if (plan.isPole(k)) {
                seats[i] = NONE;
                loads[k] -= plan.loadBy(i, k);
                highs[k] -= plan.highOn(i, k);
            }
            return k;
        }

        private int worth() {
            int high = 0;
            for (int k = 0; k < plan.poles; k++) {
                high += loads[k] <= bearing[k] ? highs[k] : 0;
            }
            return high;
        }

        private static int sendUp(Schools s, int turns, int low, int top) {
            if (turns <= 0) {
                return s.worth();
            }
            int most = callDown(s, turns - 1, low, top);
            for (int i = 0; i < s.plan.people; i++) {
                for (int k = 0; k < s.plan.poles && s.seats[i] == NONE && most < top; k++) {
                    if ((s.up >> k & 1) == 1) {
                        s.seat(i, k);
                        most = Math.max(most, callDown(s, turns - 1, Math.max(low, most), top));
                        s.unseat(i);
                    }
                }
            }
            return most;
        }

        private static int callDown(Schools s, int turns, int low, int top) {
            if (turns <= 0) {
                return s.worth();
            }
            int least = sendUp(s, turns - 1, low, top);
            for (int i = 0; i < s.plan.people && least > low; i++) {
                if (s.seats[i] != NONE) {
                    int k = s.unseat(i);
                    least = Math.min(least, sendUp(s, turns - 1, low, Math.min(top, least)));
                    s.seat(i, k);
                }
            }
            return least;
        }
    }
}
