/**
 * Someone who juggles, beat by beat: what is DUE when, what MAY be thrown, and what comes of it.
 * Words in capitals are those of the document, ../shared/DOC.md, which says what each call promises.
 */
public final class ThingsThrown {
    public static final int BAD = -1, FULL = -2, FINDING = -3, STATE = -4, SPENT = -6, NONE = -9;

    private static final int NOTHING = 1, BEYOND = 2, UNLIKE = 3, NOUGHT = 4, SIZE = 5;
    // What a test ahead of a call answers when it has nothing to refuse; no refusal is 0.
    private static final int GRANTED = 0;

    private static final int ROWS = 6, ROW_ROOM = 40, TEXTS = 4, TEXT_ROOM = 60;
    private static final int MOST_THINGS = 6, MOST_DEEDS = 40, PLACES_KEPT = 3;
    private static final int LOWEST_HEIGHT = 1, HIGHEST_HEIGHT = 7;
    private static final int HIGHEST_SKY = 65535, MOST_BEATS = 15;
    private static final int BLANK = 32, FIGURE_0 = 48;
    private static final int COUNTS = 12, THING_TELLS = 4;
    private static final int MOST_IN_RUN = 20, MOST_ROUNDS = 100, MOST_SOUGHT = 4, MOST_TURNS = 2;
    private static final int MOST_BY_CHANCE = 6, CHANCES = 12, MOST_PAIRS = 8;
    private static final int MOST_LOTS = 20, LOT_FACTOR = 48271, LOT_MODULUS = 2147483647;

    private final Sheet[] rows = new Sheet[ROWS];
    private final Sheet[] texts = new Sheet[TEXTS];
    private final Telling telling = new Telling();
    private final Troupe troupe = new Troupe();
    private final Evening evening = new Evening();
    private final Evening[] kept = new Evening[PLACES_KEPT];
    private final Outlook outlook = new Outlook(troupe);
    private final Chances chances = new Chances(troupe);
    private final int[] findingsMade = new int[SIZE + 1];
    private int latestFinding = 0;
    private int askedLast = 0;
    private long upperLast = 0;
    private long lowerLast = 1;

    public ThingsThrown() {
        for (int r = 0; r < ROWS; r++) {
            rows[r] = new Sheet(new int[ROW_ROOM]);
        }
        for (int t = 0; t < TEXTS; t++) {
            texts[t] = new Sheet(new int[TEXT_ROOM]);
        }
        for (int k = 0; k < PLACES_KEPT; k++) {
            kept[k] = new Evening();
            kept[k].forget();
        }
    }

    // ---- 1 rows, texts, things

    public int row(int r, int n) {
        if (!isRow(r) || n > ROW_ROOM) {
            return BAD;
        }
        if (n < 0) {
            return found(SIZE);
        }
        rows[r].begin(n, 0);
        return n;
    }

    public int lay(int r, int i, int v) {
        int refusal = refusalOfPlace(r, i);
        if (refusal != GRANTED) {
            return refusal;
        }
        int was = rows[r].cells[i];
        rows[r].cells[i] = v;
        return tell(was);
    }

    public int at(int r, int i) {
        int refusal = refusalOfPlace(r, i);
        return refusal != GRANTED ? refusal : tell(rows[r].cells[i]);
    }

    public int tear(int r) {
        int refusal = refusalOfRow(r);
        if (refusal != GRANTED) {
            return refusal;
        }
        rows[r].size = Sheet.MISSING;
        return 1;
    }

    public int copy(int r, int i, int to, int j, int n) {
        if (!isRow(r) || !isRow(to)) {
            return BAD;
        }
        if (n < 0) {
            return found(SIZE);
        }
        if (rows[r].isMissing() || rows[to].isMissing()) {
            return found(NOTHING);
        }
        if (!rows[r].hasPart(i, n) || !rows[to].hasPart(j, n)) {
            return found(BEYOND);
        }
        System.arraycopy(rows[r].cells, i, rows[to].cells, j, n);
        return 1;
    }

    public int mean(int r) {
        int refusal = refusalOfRow(r);
        if (refusal != GRANTED) {
            return refusal;
        }
        Sheet row = rows[r];
        if (row.size == 0) {
            return found(NOUGHT);
        }
        long sum = 0;
        for (int i = 0; i < row.size; i++) {
            sum += row.cells[i];
        }
        return tell((int) (sum / row.size));
    }

    public int text(int t, int n) {
        if (!isText(t) || n > TEXT_ROOM) {
            return BAD;
        }
        if (n < 0) {
            return found(SIZE);
        }
        texts[t].begin(n, BLANK);
        return n;
    }

    public int put(int t, int i, int v) {
        int refusal = refusalOfText(t);
        if (refusal != GRANTED) {
            return refusal;
        }
        if (!texts[t].has(i)) {
            return found(BEYOND);
        }
        int was = texts[t].cells[i];
        texts[t].cells[i] = (byte) v;
        return was + 1000;
    }

    public int fault(int t) {
        int refusal = refusalOfText(t);
        return refusal != GRANTED ? refusal : telling.read(texts[t]);
    }

    public int things(int t) {
        int refusal = refusalOfText(t);
        if (refusal != GRANTED) {
            return refusal;
        }
        if (telling.read(texts[t]) != NONE) {
            return STATE;
        }
        troupe.takeFrom(telling.troupe);
        evening.begin(telling.dues);
        for (int k = 0; k < PLACES_KEPT; k++) {
            kept[k].forget();
        }
        return troupe.size;
    }

    public int thing(int i, int what) {
        if (!isThing(i) || what < 0 || what >= THING_TELLS) {
            return BAD;
        }
        return tell(ofThing(i, what));
    }

    public int mark(int i, int kind) {
        if (!isThing(i) || kind <= Kinds.BALL || kind >= Kinds.COUNT) {
            return BAD;
        }
        int own = troupe.kind[i];
        if (!Kinds.isOf(own, kind)) {
            return found(UNLIKE);
        }
        switch (kind) {
            case Kinds.CLUB:
                return Kinds.heightsLater(own);
            case Kinds.FEATHER:
                return Troupe.due(evening.dues, i) / 2;
            case Kinds.LEAD:
                return Kinds.heightsSooner(own);
            case Kinds.TORCH:
                return troupe.torchesAhead(evening.dues, i);
            default:
                return troupe.thingsBehind(evening.dues, i);
        }
    }

    // ---- 2 deeds

    public int toss(int height) {
        if (!isHeight(height)) {
            return BAD;
        }
        if (!troupe.mayGo(evening.dues, height)) {
            return STATE;
        }
        if (evening.isFull()) {
            return FULL;
        }
        enterThrow(height);
        return skyNow();
    }

    public int rest() {
        if (troupe.size == 0 || troupe.dueNow(evening.dues) != NONE) {
            return STATE;
        }
        if (evening.isFull()) {
            return FULL;
        }
        enterRest();
        return skyNow();
    }

    public int exchange(int i, int j) {
        if (!isThing(i) || !isThing(j) || i == j) {
            return BAD;
        }
        if (evening.isFull()) {
            return FULL;
        }
        enterExchange(i, j);
        return skyNow();
    }

    public int undo(int n) {
        if (n < 0 || n > evening.deeds) {
            return BAD;
        }
        int undone = evening.deeds - n;
        evening.takeBack(n);
        return undone;
    }

    public int keep(int k) {
        if (!isPlaceKept(k)) {
            return BAD;
        }
        if (troupe.size == 0) {
            return STATE;
        }
        kept[k].takeFrom(evening);
        return evening.deeds;
    }

    public int on(int k) {
        if (!isPlaceKept(k)) {
            return BAD;
        }
        if (kept[k].isForgotten()) {
            return found(NOTHING);
        }
        evening.takeFrom(kept[k]);
        return evening.deeds;
    }

    // ---- 3 what may be (aside)

    public int lands(int i, int height) {
        if (!isThing(i) || !isHeight(height)) {
            return BAD;
        }
        return Kinds.flight(troupe.kind[i], height);
    }

    public int may() {
        if (troupe.size == 0) {
            return STATE;
        }
        int now = troupe.dueNow(evening.dues);
        if (now == NONE) {
            return NONE;
        }
        tell(now);
        return troupe.heightsNow(evening.dues);
    }

    public int run(int r) {
        int refusal = refusalOfThrows(r, 0, MOST_IN_RUN);
        if (refusal != GRANTED) {
            return refusal;
        }
        int made = outlook.throwsMade(evening.dues, rows[r]);
        tell(troupe.sky(outlook.duesThen));
        return made;
    }

    public int rounds(int r) {
        int refusal = refusalOfThrows(r, 1, MOST_IN_RUN);
        if (refusal != GRANTED) {
            return refusal;
        }
        return outlook.roundsBack(evening.dues, rows[r]);
    }

    // ---- 4 skies (aside)

    public int fewest(int sky, int r) {
        if (troupe.size == 0) {
            return STATE;
        }
        if (!isSky(sky) || !isRow(r)) {
            return BAD;
        }
        int n = outlook.fewestTo(evening.dues, sky);
        if (n == NONE) {
            return NONE;
        }
        rows[r].begin(n, 0);
        System.arraycopy(outlook.path, 0, rows[r].cells, 0, n);
        return n;
    }

    public int ways(int n) {
        if (troupe.size == 0) {
            return STATE;
        }
        if (n < 1 || n > MOST_SOUGHT) {
            return BAD;
        }
        tellRatio(outlook.waysBack(evening.dues, n), 1);
        return tell(outlook.firstHeights);
    }

    // ---- 5 how high, which kind

    public int height(int sky) {
        if (troupe.size == 0) {
            return STATE;
        }
        if (!isSky(sky)) {
            return BAD;
        }
        if (troupe.dueNow(evening.dues) == NONE) {
            return NONE;
        }
        return outlook.heightsTo(evening.dues, sky);
    }

    public int kinds(int i, int r) {
        int refusal = refusalOfPairs(i, r);
        return refusal != GRANTED ? refusal : Kinds.fitting(rows[r]);
    }

    public int next(int i, int r) {
        int refusal = refusalOfPairs(i, r);
        if (refusal != GRANTED) {
            return refusal;
        }
        int fitting = Kinds.fitting(rows[r]);
        if (fitting == 0) {
            return NONE;
        }
        int best = Kinds.heightToTry(fitting);
        tell(Kinds.greatestPart(fitting, best));
        return best;
    }

    // ---- 6 by turns

    public int duel(int n) {
        if (troupe.size == 0) {
            return STATE;
        }
        if (n < 0 || n > MOST_TURNS) {
            return BAD;
        }
        return tell(outlook.bestByTurns(evening.dues, n));
    }

    // ---- 7 chances, lots

    public int odds(int r, int p) {
        int refusal = refusalOfChances(r, p);
        if (refusal != GRANTED) {
            return refusal;
        }
        long all = chances.weightOfAll(evening.dues, rows[r], p);
        return tellRatio(all, Chances.weight(rows[r].size));
    }

    public int mid(int r, int p) {
        int refusal = refusalOfChances(r, p);
        if (refusal != GRANTED) {
            return refusal;
        }
        long made = chances.weightOfMade(evening.dues, rows[r], p);
        return tellRatio(made, Chances.weight(rows[r].size));
    }

    public int lots(int n, int seed) {
        if (troupe.size == 0) {
            return STATE;
        }
        if (n < 1 || n > MOST_LOTS || seed < 1 || seed >= LOT_MODULUS) {
            return BAD;
        }
        if (evening.deeds + n > MOST_DEEDS) {
            return FULL;
        }
        long lot = seed;
        for (int k = 0; k < n; k++) {
            lot = lot * LOT_FACTOR % LOT_MODULUS;
            enterByLot((int) lot);
        }
        return skyNow();
    }

    // ---- 8 what is told

    public int asked() {
        return askedLast;
    }

    public long upper() {
        return upperLast;
    }

    public long lower() {
        return lowerLast;
    }

    public int count(int what) {
        switch (what) {
            case 0:
                return troupe.size;
            case 1:
                return evening.beat;
            case 2:
                return evening.deeds;
            case 3:
                return skyNow();
            case 4:
                return troupe.dueNow(evening.dues);
            case 5:
                return troupe.dueTogether(evening.dues);
            case 6:
                return evening.throwsMade();
            case 7:
                return troupe.howManyOf(Kinds.CLUB);
            case 8:
                return troupe.howManyOf(Kinds.LEAD);
            case 9:
                return sheetsThere(rows);
            case 10:
                return sheetsThere(texts);
            case 11:
                return skiesKept();
            default:
                return BAD;
        }
    }

    public int finding() {
        return latestFinding;
    }

    public int findings(int f) {
        return f < NOTHING || f > SIZE ? BAD : findingsMade[f];
    }

    public long digest() {
        long h = 17;
        for (int what = 0; what < COUNTS; what++) {
            h = 31 * h + count(what);
        }
        for (int i = 0; i < troupe.size; i++) {
            for (int what = 0; what < THING_TELLS; what++) {
                h = 31 * h + ofThing(i, what);
            }
        }
        for (int k = 0; k < PLACES_KEPT; k++) {
            h = 31 * h + kept[k].deeds;
        }
        return digestOfSheets(digestOfSheets(h, rows), texts);
    }

    private static long digestOfSheets(long ahead, Sheet[] sheets) {
        long h = ahead;
        for (int s = 0; s < sheets.length; s++) {
            h = 31 * h + sheets[s].size;
            for (int i = 0; i < sheets[s].size; i++) {
                h = 31 * h + sheets[s].cells[i];
            }
        }
        return h;
    }

    // ---- what numbers are

    private static boolean isRow(int r) {
        return r >= 0 && r < ROWS;
    }

    private static boolean isText(int t) {
        return t >= 0 && t < TEXTS;
    }

    private static boolean isHeight(int height) {
        return height >= LOWEST_HEIGHT && height <= HIGHEST_HEIGHT;
    }

    private static boolean isSky(int sky) {
        return sky >= 0 && sky <= HIGHEST_SKY;
    }

    private static boolean isPlaceKept(int k) {
        return k >= 0 && k < PLACES_KEPT;
    }

    private boolean isThing(int i) {
        return i >= 0 && i < troupe.size;
    }

    // ---- what is refused: GRANTED, or what the call answers

    private int found(int finding) {
        latestFinding = finding;
        findingsMade[finding]++;
        return FINDING;
    }

    private int refusalOfRow(int r) {
        if (!isRow(r)) {
            return BAD;
        }
        return rows[r].isMissing() ? found(NOTHING) : GRANTED;
    }

    private int refusalOfPlace(int r, int i) {
        int refusal = refusalOfRow(r);
        if (refusal != GRANTED) {
            return refusal;
        }
        return rows[r].has(i) ? GRANTED : found(BEYOND);
    }

    private int refusalOfText(int t) {
        if (!isText(t)) {
            return BAD;
        }
        return texts[t].isMissing() ? found(NOTHING) : GRANTED;
    }

    private int refusalOfThrows(int r, int least, int most) {
        if (troupe.size == 0) {
            return STATE;
        }
        int refusal = refusalOfRow(r);
        if (refusal != GRANTED) {
            return refusal;
        }
        Sheet row = rows[r];
        if (row.size < least || row.size > most) {
            return found(SIZE);
        }
        for (int i = 0; i < row.size; i++) {
            if (!isHeight(row.cells[i])) {
                return found(UNLIKE);
            }
        }
        return GRANTED;
    }

    private int refusalOfChances(int r, int p) {
        if (troupe.size != 0 && (p < 0 || p > CHANCES)) {
            return BAD;
        }
        return refusalOfThrows(r, 1, MOST_BY_CHANCE);
    }

    private int refusalOfPairs(int i, int r) {
        if (!isThing(i)) {
            return BAD;
        }
        int refusal = refusalOfRow(r);
        if (refusal != GRANTED) {
            return refusal;
        }
        Sheet row = rows[r];
        if (row.size % 2 != 0 || row.size > 2 * MOST_PAIRS) {
            return found(SIZE);
        }
        for (int k = 0; k + 1 < row.size; k += 2) {
            int beats = row.cells[k + 1];
            if (!isHeight(row.cells[k]) || beats < 1 || beats > MOST_BEATS) {
                return found(UNLIKE);
            }
        }
        return GRANTED;
    }

    // ---- what is told

    private int tell(int answer) {
        askedLast = answer;
        return 1;
    }

    private int tellRatio(long up, long low) {
        long shared = sharedDivisor(up, low);
        if (shared <= 0) {
            shared = 1;
        }
        upperLast = up / shared;
        lowerLast = low / shared;
        return 1;
    }

    private static long sharedDivisor(long up, long low) {
        long a = low;
        long b = up;
        // Each two steps halve the numbers at least, so 128 steps end for all longs.
        for (int step = 0; step < 128 && b != 0; step++) {
            long left = a % b;
            a = b;
            b = left;
        }
        return a;
    }

    private int ofThing(int i, int what) {
        switch (what) {
            case 0:
                return troupe.kind[i];
            case 1:
                return Troupe.due(evening.dues, i);
            case 2:
                return Kinds.heightsOf(troupe.kind[i]);
            default:
                return evening.timesThrown[i];
        }
    }

    private int skyNow() {
        return troupe.sky(evening.dues);
    }

    private static int sheetsThere(Sheet[] sheets) {
        int there = 0;
        for (int s = 0; s < sheets.length; s++) {
            if (!sheets[s].isMissing()) {
                there++;
            }
        }
        return there;
    }

    private int skiesKept() {
        int there = 0;
        for (int k = 0; k < PLACES_KEPT; k++) {
            if (!kept[k].isForgotten()) {
                there++;
            }
        }
        return there;
    }

    // ---- what is done: the callers have seen that it may be

    private void enterThrow(int height) {
        int thing = troupe.dueNow(evening.dues);
        evening.enter(troupe.thrown(evening.dues, height), thing, 1);
    }

    private void enterRest() {
        evening.enter(troupe.later(evening.dues, 1), NONE, 1);
    }

    private void enterExchange(int i, int j) {
        evening.enter(Troupe.exchanged(evening.dues, i, j), NONE, 0);
    }

    private void enterByLot(int lot) {
        int now = troupe.dueNow(evening.dues);
        if (now == NONE) {
            enterRest();
        } else if (lot / 8 % 8 == 7) {
            enterExchange(now, lot % troupe.size);
        } else {
            enterThrowFrom(lot % HIGHEST_HEIGHT);
        }
    }

    private void enterThrowFrom(int steps) {
        for (int k = 0; k < HIGHEST_HEIGHT; k++) {
            int height = (steps + k) % HIGHEST_HEIGHT + 1;
            if (troupe.mayGo(evening.dues, height)) {
                enterThrow(height);
                return;
            }
        }
        // What can go nowhere is a DEED all the same: it takes its place among the 40.
        evening.enter(evening.dues, NONE, 0);
    }

    /** A ROW or a TEXT; its room is made once and used again whenever it is told anew. */
    private static final class Sheet {
        static final int MISSING = -1;

        final int[] cells;
        int size = MISSING;

        Sheet(int[] room) {
            cells = room;
        }

        void begin(int n, int filling) {
            size = Math.max(0, Math.min(n, cells.length));
            for (int i = 0; i < size; i++) {
                cells[i] = filling;
            }
        }

        boolean isMissing() {
            return size < 0;
        }

        boolean has(int i) {
            return i >= 0 && i < size;
        }

        boolean hasPart(int i, int n) {
            return i >= 0 && n >= 0 && n <= size && i <= size - n;
        }
    }

    /** What the KINDS are, and how long each is in the air. */
    private static final class Kinds {
        static final int BALL = 0, CLUB = 1, FEATHER = 2, LEAD = 3, TORCH = 4, ANVIL = 5, COUNT = 6;

        private static final int[] LETTERS = {98, 99, 102, 108, 116, 97};
        private static final int[] ABOVE = {0, 0, 0, 0, 1, 3};
        private static final int[] LOWEST = {1, 1, 1, 1, 3, 1};
        private static final int[] HIGHEST = {7, 7, 7, 7, 7, 4};

        static int byLetter(int letter) {
            for (int kind = 0; kind < COUNT; kind++) {
                if (LETTERS[kind] == letter) {
                    return kind;
                }
            }
            return NONE;
        }

        static boolean isOf(int kind, int wanted) {
            return kind == wanted || ABOVE[kind] == wanted || wanted == BALL;
        }

        /** In how many BEATS it is DUE, or NONE if it can't be thrown so. */
        static int flight(int kind, int height) {
            if (height < LOWEST[kind] || height > HIGHEST[kind]) {
                return NONE;
            }
            if (isOf(kind, CLUB)) {
                return height + height % 2;
            }
            if (isOf(kind, LEAD)) {
                return Math.max(1, height - 1);
            }
            return kind == FEATHER ? 2 * height : height;
        }

        static int heightsOf(int kind) {
            return (2 << HIGHEST[kind]) - (1 << LOWEST[kind]);
        }

        static int heightsLater(int kind) {
            int later = 0;
            for (int height = LOWEST[kind]; height <= HIGHEST[kind]; height++) {
                if (flight(kind, height) > flight(BALL, height)) {
                    later++;
                }
            }
            return later;
        }

        static int heightsSooner(int kind) {
            int sooner = 0;
            for (int height = LOWEST[kind]; height <= HIGHEST[kind]; height++) {
                if (flight(kind, height) < flight(BALL, height)) {
                    sooner++;
                }
            }
            return sooner;
        }

        static int fitting(Sheet pairs) {
            int fitting = 0;
            for (int kind = 0; kind < COUNT; kind++) {
                if (fits(kind, pairs)) {
                    fitting |= 1 << kind;
                }
            }
            return fitting;
        }

        private static boolean fits(int kind, Sheet pairs) {
            for (int k = 0; k + 1 < pairs.size; k += 2) {
                if (flight(kind, pairs.cells[k]) != pairs.cells[k + 1]) {
                    return false;
                }
            }
            return true;
        }

        static int heightToTry(int among) {
            int best = LOWEST_HEIGHT;
            for (int height = LOWEST_HEIGHT + 1; height <= HIGHEST_HEIGHT; height++) {
                if (greatestPart(among, height) < greatestPart(among, best)) {
                    best = height;
                }
            }
            return best;
        }

        static int greatestPart(int among, int height) {
            int greatest = 0;
            for (int kind = 0; kind < COUNT; kind++) {
                greatest = Math.max(greatest, alike(among, height, flight(kind, height)));
            }
            return greatest;
        }

        private static int alike(int among, int height, int beats) {
            int alike = 0;
            for (int kind = 0; kind < COUNT; kind++) {
                if ((among >> kind & 1) != 0 && flight(kind, height) == beats) {
                    alike++;
                }
            }
            return alike;
        }
    }

    /**
     * The THINGS by their KINDS. In how many BEATS they are DUE stands in one int, DUES, with 4 bits for each:
     * none is ever DUE in more than 14, and so what is only tried needs no object and no undoing.
     */
    private static final class Troupe {
        private static final int BITS = 4, ONE = 15, ONE_BEAT_EACH = 0x111111;

        int size = 0;
        final int[] kind = new int[MOST_THINGS];

        static int due(int dues, int i) {
            return dues >>> BITS * i & ONE;
        }

        static int with(int dues, int i, int beats) {
            return dues & ~(ONE << BITS * i) | beats << BITS * i;
        }

        static int exchanged(int dues, int i, int j) {
            return with(with(dues, i, due(dues, j)), j, due(dues, i));
        }

        void begin() {
            size = 0;
        }

        void add(int kindOfIt) {
            if (size < MOST_THINGS) {
                kind[size] = kindOfIt;
                size++;
            }
        }

        void takeFrom(Troupe other) {
            System.arraycopy(other.kind, 0, kind, 0, MOST_THINGS);
            size = other.size;
        }

        int sky(int dues) {
            int sky = 0;
            for (int i = 0; i < size; i++) {
                sky |= 1 << due(dues, i);
            }
            return sky;
        }

        int dueNow(int dues) {
            for (int i = 0; i < size; i++) {
                if (due(dues, i) == 0) {
                    return i;
                }
            }
            return NONE;
        }

        int dueTogether(int dues) {
            int beats = 0;
            for (int i = 0; i < size; i++) {
                beats += due(dues, i);
            }
            return beats;
        }

        int howManyOf(int wanted) {
            int many = 0;
            for (int i = 0; i < size; i++) {
                if (Kinds.isOf(kind[i], wanted)) {
                    many++;
                }
            }
            return many;
        }

        int torchesAhead(int dues, int i) {
            int ahead = 0;
            for (int j = 0; j < size; j++) {
                if (kind[j] == Kinds.TORCH && due(dues, j) < due(dues, i)) {
                    ahead++;
                }
            }
            return ahead;
        }

        int thingsBehind(int dues, int i) {
            int behind = 0;
            for (int j = 0; j < size; j++) {
                if (due(dues, j) > due(dues, i)) {
                    behind++;
                }
            }
            return behind;
        }

        /** How many RESTS there can be from here on. */
        int restsAhead(int dues) {
            int least = MOST_BEATS;
            for (int i = 0; i < size; i++) {
                least = Math.min(least, due(dues, i));
            }
            return least;
        }

        int later(int dues, int beats) {
            return dues - beats * (ONE_BEAT_EACH & (1 << BITS * size) - 1);
        }

        int rested(int dues) {
            return later(dues, restsAhead(dues));
        }

        boolean mayGo(int dues, int height) {
            int now = dueNow(dues);
            return now != NONE && isFree(sky(dues), Kinds.flight(kind[now], height));
        }

        int heightsNow(int dues) {
            int now = dueNow(dues);
            if (now == NONE) {
                return 0;
            }
            int sky = sky(dues);
            int heights = 0;
            for (int height = LOWEST_HEIGHT; height <= HIGHEST_HEIGHT; height++) {
                if (isFree(sky, Kinds.flight(kind[now], height))) {
                    heights |= 1 << height;
                }
            }
            return heights;
        }

        private static boolean isFree(int sky, int beats) {
            return beats != NONE && (sky >> beats & 1) == 0;
        }

        /** DUES just behind a THROW that MAY be. */
        int thrown(int dues, int height) {
            int now = dueNow(dues);
            return now == NONE ? dues : later(with(dues, now, Kinds.flight(kind[now], height)), 1);
        }
    }

    /** Reads THINGS from a TEXT, aside, so that a FAULT leaves those that there are as they were. */
    private static final class Telling {
        final Troupe troupe = new Troupe();
        int dues = 0;

        /** The FAULT, or NONE. */
        int read(Sheet text) {
            troupe.begin();
            dues = 0;
            int place = 0;
            while (place < text.size) {
                if (text.cells[place] == BLANK) {
                    place++;
                    continue;
                }
                int kind = Kinds.byLetter(text.cells[place]);
                if (kind == NONE || troupe.size == MOST_THINGS) {
                    return place;
                }
                place++;
                if (place >= text.size || !isFreeFigure(text.cells[place])) {
                    return place;
                }
                dues = Troupe.with(dues, troupe.size, text.cells[place] - FIGURE_0);
                troupe.add(kind);
                place++;
            }
            return troupe.size == 0 ? text.size : NONE;
        }

        private boolean isFreeFigure(int sign) {
            int beats = sign - FIGURE_0;
            return beats >= 0 && beats <= 9 && (troupe.sky(dues) >> beats & 1) == 0;
        }
    }

    /** How all is now, and each DEED so that it can be undone. */
    private static final class Evening {
        private static final int FORGOTTEN = -1;

        int dues = 0;
        int beat = 0;
        int deeds = 0;
        final int[] timesThrown = new int[MOST_THINGS];
        private final int[] duesAhead = new int[MOST_DEEDS];
        private final int[] thingThrown = new int[MOST_DEEDS];
        private final int[] beatsTaken = new int[MOST_DEEDS];

        void begin(int duesAtFirst) {
            dues = duesAtFirst;
            beat = 0;
            deeds = 0;
            for (int i = 0; i < MOST_THINGS; i++) {
                timesThrown[i] = 0;
            }
        }

        void forget() {
            deeds = FORGOTTEN;
        }

        boolean isForgotten() {
            return deeds < 0;
        }

        boolean isFull() {
            return deeds >= MOST_DEEDS;
        }

        void enter(int duesBehind, int thing, int beats) {
            if (isForgotten() || isFull()) {
                return;
            }
            duesAhead[deeds] = dues;
            thingThrown[deeds] = thing;
            beatsTaken[deeds] = beats;
            deeds++;
            dues = duesBehind;
            beat += beats;
            if (thing != NONE) {
                timesThrown[thing]++;
            }
        }

        void takeBack(int n) {
            for (int d = deeds - 1; d >= n && d >= 0; d--) {
                dues = duesAhead[d];
                beat -= beatsTaken[d];
                if (thingThrown[d] != NONE) {
                    timesThrown[thingThrown[d]]--;
                }
                deeds = d;
            }
        }

        int throwsMade() {
            int made = 0;
            for (int i = 0; i < MOST_THINGS; i++) {
                made += timesThrown[i];
            }
            return made;
        }

        void takeFrom(Evening other) {
            dues = other.dues;
            beat = other.beat;
            deeds = other.deeds;
            System.arraycopy(other.timesThrown, 0, timesThrown, 0, MOST_THINGS);
            System.arraycopy(other.duesAhead, 0, duesAhead, 0, MOST_DEEDS);
            System.arraycopy(other.thingThrown, 0, thingThrown, 0, MOST_DEEDS);
            System.arraycopy(other.beatsTaken, 0, beatsTaken, 0, MOST_DEEDS);
        }
    }

    /** What would come of THROWS that are only tried. RESTS stand ahead of a THROW as long as nothing is DUE. */
    private static final class Outlook {
        // What THINGS are DUE in, together, and the cost stay far within BEYOND_ALL.
        private static final int COST_OF_NO_THROW = 100, BEYOND_ALL = 1000000;

        private final Troupe troupe;
        int duesThen = 0;
        final int[] path = new int[MOST_SOUGHT];
        int firstHeights = 0;

        Outlook(Troupe whose) {
            troupe = whose;
        }

        /** DUES ahead of the first THROW that MAY not be, or behind the last, are left in duesThen. */
        int throwsMade(int dues, Sheet row) {
            duesThen = dues;
            for (int k = 0; k < row.size; k++) {
                duesThen = troupe.rested(duesThen);
                if (!troupe.mayGo(duesThen, row.cells[k])) {
                    return k;
                }
                duesThen = troupe.thrown(duesThen, row.cells[k]);
            }
            return row.size;
        }

        int roundsBack(int dues, Sheet row) {
            int then = dues;
            for (int round = 1; round <= MOST_ROUNDS; round++) {
                if (throwsMade(then, row) < row.size) {
                    return NONE;
                }
                then = duesThen;
                if (comesToDues(then, dues)) {
                    return round;
                }
            }
            return NONE;
        }

        private boolean comesToDues(int dues, int wanted) {
            int rests = troupe.restsAhead(dues);
            for (int beats = 0; beats <= rests; beats++) {
                if (troupe.later(dues, beats) == wanted) {
                    return true;
                }
            }
            return false;
        }

        private boolean comesToSky(int dues, int wanted) {
            int rests = troupe.restsAhead(dues);
            int sky = troupe.sky(dues);
            for (int beats = 0; beats <= rests; beats++) {
                if (sky >> beats == wanted) {
                    return true;
                }
            }
            return false;
        }

        /** The HEIGHTS are left in path. */
        int fewestTo(int dues, int sky) {
            // No THING ever goes or comes, so there is nothing to look for in a SKY of more or fewer.
            if (Integer.bitCount(sky) != troupe.size) {
                return NONE;
            }
            for (int n = 0; n <= MOST_SOUGHT; n++) {
                if (leadsTo(dues, sky, 0, n)) {
                    return n;
                }
            }
            return NONE;
        }

        private boolean leadsTo(int dues, int sky, int depth, int n) {
            if (depth >= n || depth >= MOST_SOUGHT) {
                return comesToSky(dues, sky);
            }
            int now = troupe.rested(dues);
            int heights = troupe.heightsNow(now);
            for (int height = LOWEST_HEIGHT; height <= HIGHEST_HEIGHT; height++) {
                if ((heights >> height & 1) != 0) {
                    path[depth] = height;
                    if (leadsTo(troupe.thrown(now, height), sky, depth + 1, n)) {
                        return true;
                    }
                }
            }
            return false;
        }

        /** HEIGHTS that come first in any of them are left in firstHeights. */
        long waysBack(int dues, int n) {
            int sky = troupe.sky(dues);
            int now = troupe.rested(dues);
            int heights = troupe.heightsNow(now);
            long all = 0;
            firstHeights = 0;
            for (int height = LOWEST_HEIGHT; height <= HIGHEST_HEIGHT; height++) {
                if ((heights >> height & 1) != 0) {
                    long some = waysTo(troupe.thrown(now, height), sky, n - 1);
                    all += some;
                    firstHeights |= some > 0 ? 1 << height : 0;
                }
            }
            return all;
        }

        private long waysTo(int dues, int sky, int left) {
            if (left <= 0) {
                return troupe.sky(dues) == sky ? 1 : 0;
            }
            int now = troupe.rested(dues);
            int heights = troupe.heightsNow(now);
            long all = 0;
            for (int height = LOWEST_HEIGHT; height <= HIGHEST_HEIGHT; height++) {
                if ((heights >> height & 1) != 0) {
                    all += waysTo(troupe.thrown(now, height), sky, left - 1);
                }
            }
            return all;
        }

        int heightsTo(int dues, int sky) {
            int heights = troupe.heightsNow(dues);
            int fitting = 0;
            for (int height = LOWEST_HEIGHT; height <= HIGHEST_HEIGHT; height++) {
                if ((heights >> height & 1) != 0 && troupe.sky(troupe.thrown(dues, height)) == sky) {
                    fitting |= 1 << height;
                }
            }
            return fitting;
        }

        int bestByTurns(int dues, int turnsEach) {
            return bestFrom(dues, 2 * turnsEach);
        }

        /** The first one has the turn whenever an even number of THROWS is left. */
        private int bestFrom(int dues, int left) {
            if (left <= 0) {
                return troupe.dueTogether(dues);
            }
            boolean first = left % 2 == 0;
            int now = troupe.rested(dues);
            int heights = troupe.heightsNow(now);
            if (heights == 0) {
                return troupe.dueTogether(now) + (first ? -COST_OF_NO_THROW : COST_OF_NO_THROW);
            }
            int best = first ? -BEYOND_ALL : BEYOND_ALL;
            for (int height = LOWEST_HEIGHT; height <= HIGHEST_HEIGHT; height++) {
                if ((heights >> height & 1) != 0) {
                    int value = bestFrom(troupe.thrown(now, height), left - 1);
                    best = first ? Math.max(best, value) : Math.min(best, value);
                }
            }
            return best;
        }
    }

    /** THROWS that go 1 higher by p of 12. Chances are whole weights: of n THROWS all together weigh 12 to the n. */
    private static final class Chances {
        private final Troupe troupe;

        Chances(Troupe whose) {
            troupe = whose;
        }

        static long weight(int n) {
            long weight = 1;
            for (int k = 0; k < n; k++) {
                weight *= CHANCES;
            }
            return weight;
        }

        long weightOfAll(int dues, Sheet row, int p) {
            return weightFrom(dues, row, 0, p, false);
        }

        long weightOfMade(int dues, Sheet row, int p) {
            return weightFrom(dues, row, 0, p, true);
        }

        /** What comes from place k on: each THROW that is made counts 1, or else only that all of them are. */
        private long weightFrom(int dues, Sheet row, int k, int p, boolean each) {
            if (k >= row.size || k >= MOST_BY_CHANCE) {
                return each ? 0 : 1;
            }
            int now = troupe.rested(dues);
            int told = row.cells[k];
            int over = Math.min(told + 1, HIGHEST_HEIGHT);
            long made = each ? weight(row.size - k - 1) : 0;
            long all = 0;
            if (troupe.mayGo(now, told)) {
                all += (CHANCES - p) * (made + weightFrom(troupe.thrown(now, told), row, k + 1, p, each));
            }
            if (troupe.mayGo(now, over)) {
                all += p * (made + weightFrom(troupe.thrown(now, over), row, k + 1, p, each));
            }
            return all;
        }
    }
}
