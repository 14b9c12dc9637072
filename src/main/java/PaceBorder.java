import java.util.Arrays;

/** A border between two kingdoms that goes a pace a day toward whoever was ruder. */
public final class PaceBorder {
    public static final int BAD = -1, FULL = -2, FINDING = -3, STATE = -4, SPENT = -6, NONE = -9;

    private static final int NOTHING = 1, BEYOND = 2, UNLIKE = 3, NOUGHT = 4, SIZE = 5;
    private static final int STRIP = 0, FARM = 1, WALL = 2, RIVER = 3, INN = 4, TOWN = 5, KINDS = 6;

    private static final int ROWS = 6, ROW_SIZE = 40;
    private static final int TEXTS = 4, TEXT_SIZE = 60, BLANK = 32;
    private static final int MAX_STRIPS = 12, MIN_STRIPS = 2, PLACES = MAX_STRIPS + 1;
    private static final int CROWNS = 2, RUDEST = 3, TOP_RATE = 9;
    private static final int MAX_DAYS = 40, TAX_EVERY = 10, TAX_DAYS = MAX_DAYS / TAX_EVERY;
    private static final int KEPT = 3, MISSING = -1;
    private static final int PLAN_DAYS = 20, CHANCE_DAYS = 6, GAME_DAYS = 4, TOP_PRICE = 9;
    private static final int STRIP_FACTS = 6, COUNTS = 9;
    private static final long LOT_FACTOR = 48271L, LOT_MODULUS = 2147483647L;

    private final Shelf rows;
    private final Shelf texts;
    private final Reader reader;
    private final Ground ground;
    private final Days days;
    private final Days[] kept;
    private final int[] keptDone;
    private final Plan plan;
    private final Chance chance;
    private final Turns turns;
    private final Past past;
    private final int[] findingCounts;
    private int lastFinding;
    private int lastAsked;
    private long lastUpper;
    private long lastLower;

    public PaceBorder() {
        rows = new Shelf(ROWS, ROW_SIZE, 0);
        texts = new Shelf(TEXTS, TEXT_SIZE, BLANK);
        reader = new Reader(texts);
        ground = new Ground();
        days = new Days();
        kept = new Days[KEPT];
        for (int k = 0; k < KEPT; k++) {
            kept[k] = new Days();
        }
        keptDone = new int[KEPT];
        Arrays.fill(keptDone, MISSING);
        plan = new Plan(ground, days);
        chance = new Chance(ground, days);
        turns = new Turns(ground, days);
        past = new Past(ground, days);
        findingCounts = new int[SIZE + 1];
        lastLower = 1;
    }

    // ---- 1 rows, texts, lands

    public int row(int r, int n) {
        if (!rows.isNumber(r) || n > ROW_SIZE) {
            return BAD;
        }
        if (n < 0) {
            return find(SIZE);
        }
        rows.make(r, n);
        return n;
    }

    public int lay(int r, int i, int v) {
        if (!rows.isNumber(r)) {
            return BAD;
        }
        int lacking = lackingPlace(rows, r, i);
        if (lacking != 0) {
            return find(lacking);
        }
        int was = rows.get(r, i);
        rows.set(r, i, v);
        return tell(was);
    }

    public int at(int r, int i) {
        if (!rows.isNumber(r)) {
            return BAD;
        }
        int lacking = lackingPlace(rows, r, i);
        if (lacking != 0) {
            return find(lacking);
        }
        return tell(rows.get(r, i));
    }

    public int tear(int r) {
        if (!rows.isNumber(r)) {
            return BAD;
        }
        if (!rows.isThere(r)) {
            return find(NOTHING);
        }
        rows.remove(r);
        return 1;
    }

    public int copy(int r, int i, int to, int j, int n) {
        if (!rows.isNumber(r) || !rows.isNumber(to)) {
            return BAD;
        }
        if (n < 0) {
            return find(SIZE);
        }
        if (!rows.isThere(r) || !rows.isThere(to)) {
            return find(NOTHING);
        }
        if (!rows.holds(r, i, n) || !rows.holds(to, j, n)) {
            return find(BEYOND);
        }
        rows.bring(r, i, to, j, n);
        return 1;
    }

    public int mean(int r) {
        if (!rows.isNumber(r)) {
            return BAD;
        }
        if (!rows.isThere(r)) {
            return find(NOTHING);
        }
        int size = rows.sizeOf(r);
        if (size < 1) {
            return find(NOUGHT);
        }
        return tell((int) (rows.sum(r) / size));
    }

    public int text(int t, int n) {
        if (!texts.isNumber(t) || n > TEXT_SIZE) {
            return BAD;
        }
        if (n < 0) {
            return find(SIZE);
        }
        texts.make(t, n);
        return n;
    }

    public int put(int t, int i, int v) {
        if (!texts.isNumber(t)) {
            return BAD;
        }
        int lacking = lackingPlace(texts, t, i);
        if (lacking != 0) {
            return find(lacking);
        }
        int was = texts.get(t, i);
        texts.set(t, i, (byte) v);
        return was + 1000;
    }

    public int fault(int t) {
        if (!texts.isNumber(t)) {
            return BAD;
        }
        if (!texts.isThere(t)) {
            return find(NOTHING);
        }
        return reader.read(t);
    }

    public int land(int t) {
        if (!texts.isNumber(t)) {
            return BAD;
        }
        if (!texts.isThere(t)) {
            return find(NOTHING);
        }
        if (reader.read(t) != NONE) {
            return STATE;
        }
        ground.takeFrom(reader.draft);
        days.begin(reader.border, reader.rate0, reader.rate1);
        Arrays.fill(keptDone, MISSING);
        return ground.strips;
    }

    public int strip(int i, int what) {
        if (!ground.has(i) || what < 0 || what >= STRIP_FACTS) {
            return BAD;
        }
        return tell(stripFact(i, what));
    }

    public int mark(int i, int kind) {
        if (!ground.has(i) || kind <= STRIP || kind >= KINDS) {
            return BAD;
        }
        if (!ground.isOf(i, kind)) {
            return find(UNLIKE);
        }
        switch (kind) {
            case WALL:
                return Ground.touches(i, days.border) ? 1 : 0;
            case RIVER:
                return days.done % 2 == 0 ? 1 : 0;
            case INN:
                return days.dueOfBoth(ground, i, days.border) / 2;
            default:
                return days.dueOfBoth(ground, i, days.border);
        }
    }

    public int rate(int crown, int v) {
        if (!isCrown(crown) || v < 1 || v > TOP_RATE) {
            return BAD;
        }
        if (hasNoLand()) {
            return STATE;
        }
        int was = days.rateOf(crown);
        days.setRate(crown, v);
        return was;
    }

    // ---- 2 days

    public int day(int a, int b) {
        if (a < 0 || a > RUDEST || b < 0 || b > RUDEST) {
            return BAD;
        }
        if (hasNoLand()) {
            return STATE;
        }
        if (days.done >= MAX_DAYS) {
            return FULL;
        }
        days.pass(ground, a, b);
        return days.border;
    }

    public int undo(int n) {
        if (n < 0 || n > days.done) {
            return BAD;
        }
        int undone = days.done - n;
        days.goBackTo(n);
        return undone;
    }

    public int border() {
        if (hasNoLand()) {
            return STATE;
        }
        tell(days.done);
        return days.border;
    }

    public int lain(int day) {
        if (day < 0 || day > days.done) {
            return BAD;
        }
        return days.borderAhead(day);
    }

    public int got(int crown) {
        if (!isCrown(crown)) {
            return BAD;
        }
        int all = 0;
        for (int i = 0; i < ground.strips; i++) {
            all += days.paidBy(i, crown);
        }
        return all;
    }

    public int keep(int k) {
        if (k < 0 || k >= KEPT) {
            return BAD;
        }
        if (hasNoLand()) {
            return STATE;
        }
        Days.carry(days, kept[k]);
        keptDone[k] = days.done;
        return days.done;
    }

    public int on(int k) {
        if (k < 0 || k >= KEPT) {
            return BAD;
        }
        if (keptDone[k] == MISSING) {
            return find(NOTHING);
        }
        Days.carry(kept[k], days);
        return days.done;
    }

    // ---- 3 moves to come (aside)

    public int moves() {
        if (hasNoLand()) {
            return STATE;
        }
        int can = 0;
        for (int move = -1; move <= 1; move++) {
            if (ground.rudeness(days.border, move, days.done) >= 0) {
                can |= 1 << (move + 1);
            }
        }
        return can;
    }

    public int judge(int r) {
        if (!rows.isNumber(r)) {
            return BAD;
        }
        if (hasNoLand()) {
            return STATE;
        }
        if (!rows.isThere(r)) {
            return find(NOTHING);
        }
        if (!rows.isAllWithin(r, -1, 1)) {
            return find(UNLIKE);
        }
        int first = plan.firstThatCannotBe(rows, r);
        tell(plan.borderBehind(rows, r, first));
        return first;
    }

    public int rude(int r) {
        if (!rows.isNumber(r)) {
            return BAD;
        }
        if (hasNoLand()) {
            return STATE;
        }
        if (!rows.isThere(r)) {
            return find(NOTHING);
        }
        if (!canGo(r)) {
            return find(UNLIKE);
        }
        return plan.rudenessOf(rows, r);
    }

    public int pays(int i, int r) {
        if (!ground.has(i) || !rows.isNumber(r)) {
            return BAD;
        }
        if (!rows.isThere(r)) {
            return find(NOTHING);
        }
        if (!canGo(r)) {
            return find(UNLIKE);
        }
        plan.tollOfStrip(i);
        return plan.tollsOf(rows, r);
    }

    public int soonest(int to, int r) {
        if (!ground.isPlace(to) || !rows.isNumber(r)) {
            return BAD;
        }
        if (hasNoLand()) {
            return STATE;
        }
        int n = plan.fewestDaysTo(to);
        if (n < 0) {
            return NONE;
        }
        plan.tollNothing();
        plan.solve(n, to, false);
        layPlan(n, r);
        return n;
    }

    public int polite(int to, int n, int r) {
        if (!ground.isPlace(to) || !isPlanLength(n) || !rows.isNumber(r)) {
            return BAD;
        }
        if (hasNoLand()) {
            return STATE;
        }
        plan.tollNothing();
        plan.solve(n, to, true);
        int rudeness = plan.costFrom(0, days.border);
        if (rudeness >= Plan.FAR) {
            return NONE;
        }
        layPlan(n, r);
        return rudeness;
    }

    public int ways(int to, int n) {
        if (!ground.isPlace(to) || !isPlanLength(n)) {
            return BAD;
        }
        if (hasNoLand()) {
            return STATE;
        }
        return tellChance(plan.waysTo(to, n), 1);
    }

    public int reach(int n) {
        if (!isPlanLength(n)) {
            return BAD;
        }
        if (hasNoLand()) {
            return STATE;
        }
        return plan.reachIn(n);
    }

    // ---- 4 dues

    public int least(int i, int n, int r) {
        if (!ground.has(i) || !isPlanLength(n) || !rows.isNumber(r)) {
            return BAD;
        }
        plan.tollOfStrip(i);
        plan.solve(n, Plan.ANYWHERE, false);
        layPlan(n, r);
        return plan.costFrom(0, days.border);
    }

    public int most(int crown, int n) {
        if (!isCrown(crown) || !isPlanLength(n)) {
            return BAD;
        }
        if (hasNoLand()) {
            return STATE;
        }
        plan.tollLostBy(crown);
        plan.solve(n, Plan.ANYWHERE, false);
        return -plan.costFrom(0, days.border);
    }

    public int now() {
        if (hasNoLand()) {
            return STATE;
        }
        tell(days.dueToCrown(ground, 1, days.border));
        return days.dueToCrown(ground, 0, days.border);
    }

    // ---- 5 by chance

    public int odds(int to, int n) {
        if (!ground.isPlace(to) || !isChanceLength(n)) {
            return BAD;
        }
        if (hasNoLand()) {
            return STATE;
        }
        return tellChance(chance.pairsEndingAt(to, n), Chance.pairsIn(n));
    }

    public int met(int to, int n) {
        if (!ground.isPlace(to) || !isChanceLength(n)) {
            return BAD;
        }
        if (hasNoLand()) {
            return STATE;
        }
        return tellChance(chance.pairsMeeting(to, n), Chance.pairsIn(n));
    }

    public int hedge(int i, int n) {
        if (!ground.has(i) || !isChanceLength(n)) {
            return BAD;
        }
        return tellChance(chance.duesOf(i, n), Chance.pairsIn(n));
    }

    // ---- 6 what to say

    public int game(int n, int v) {
        if (!isGame(n, v)) {
            return BAD;
        }
        if (hasNoLand()) {
            return STATE;
        }
        turns.solve(n, v);
        return tell(turns.worthOf(0, days.border));
    }

    public int said(int n, int v) {
        if (!isGame(n, v) || n == 0) {
            return BAD;
        }
        if (hasNoLand()) {
            return STATE;
        }
        turns.solve(n, v);
        return turns.bestSaying(0, days.border);
    }

    public int calm(int n, int v) {
        if (!isGame(n, v)) {
            return BAD;
        }
        if (hasNoLand()) {
            return STATE;
        }
        turns.solve(n, v);
        return turns.isCalm(n) ? 1 : 0;
    }

    // ---- 7 books, courts

    public int law(int i, int day) {
        if (!ground.has(i) || day < 0 || day > MAX_DAYS) {
            return BAD;
        }
        if (day > days.done) {
            return STATE;
        }
        int place = days.borderAhead(day);
        if (ground.isOf(i, TOWN) && Ground.touches(i, place)) {
            return 3;
        }
        return 1 << Ground.crownOf(i, place);
    }

    public int books(int r) {
        if (!rows.isNumber(r)) {
            return BAD;
        }
        if (hasNoLand()) {
            return STATE;
        }
        if (!rows.isThere(r)) {
            return find(NOTHING);
        }
        if (rows.sizeOf(r) % Past.ENTRY != 0) {
            return find(SIZE);
        }
        if (!past.areBooks(rows, r)) {
            return find(UNLIKE);
        }
        return past.startsThatFit(rows, r);
    }

    public int kinds(int i) {
        if (!ground.has(i)) {
            return BAD;
        }
        return past.kindsThatFit(i);
    }

    // ---- 8 lots

    public int lots(int n, int seed) {
        if (n < 1 || n > PLAN_DAYS || seed < 1 || seed >= LOT_MODULUS) {
            return BAD;
        }
        if (hasNoLand()) {
            return STATE;
        }
        if (days.done + n > MAX_DAYS) {
            return FULL;
        }
        long lot = seed;
        for (int k = 0; k < n; k++) {
            lot = LOT_FACTOR * lot % LOT_MODULUS;
            days.pass(ground, (int) (lot % 4), (int) (lot / 16 % 4));
        }
        return days.border;
    }

    // ---- 9 what is told

    public int asked() {
        return lastAsked;
    }

    public long upper() {
        return lastUpper;
    }

    public long lower() {
        return lastLower;
    }

    public int count(int what) {
        switch (what) {
            case 0:
                return ground.strips;
            case 1:
                return days.done;
            case 2:
                return days.rateOf(0);
            case 3:
                return days.rateOf(1);
            case 4:
                return ground.howManyAre(FARM);
            case 5:
                return ground.howManyAre(WALL);
            case 6:
                return rows.howMany();
            case 7:
                return texts.howMany();
            case 8:
                return keptLands();
            default:
                return BAD;
        }
    }

    public int finding() {
        return lastFinding;
    }

    public int findings(int f) {
        if (f < NOTHING || f > SIZE) {
            return BAD;
        }
        return findingCounts[f];
    }

    public long digest() {
        long h = 17;
        for (int what = 0; what < COUNTS; what++) {
            h = 31 * h + count(what);
        }
        h = 31 * h + days.border;
        for (int i = 0; i < ground.strips; i++) {
            for (int what = 0; what < STRIP_FACTS; what++) {
                h = 31 * h + stripFact(i, what);
            }
        }
        for (int k = 0; k < KEPT; k++) {
            h = 31 * h + keptDone[k];
        }
        return texts.digestOnto(rows.digestOnto(h));
    }

    // ---- what several calls share

    private int find(int f) {
        if (f < NOTHING || f > SIZE) {
            return FINDING;
        }
        lastFinding = f;
        findingCounts[f]++;
        return FINDING;
    }

    private int tell(int v) {
        lastAsked = v;
        return 1;
    }

    /** The lower number is a power of 2 here, so halving alone brings lowest terms. */
    private int tellChance(long above, long below) {
        lastUpper = above;
        for (lastLower = below; lastLower > 1 && lastUpper % 2 == 0; lastLower /= 2) {
            lastUpper /= 2;
        }
        return 1;
    }

    private static int lackingPlace(Shelf shelf, int r, int i) {
        if (!shelf.isThere(r)) {
            return NOTHING;
        }
        return shelf.hasPlace(r, i) ? 0 : BEYOND;
    }

    private boolean hasNoLand() {
        return ground.strips == 0;
    }

    private static boolean isCrown(int crown) {
        return crown >= 0 && crown < CROWNS;
    }

    private static boolean isPlanLength(int n) {
        return n >= 0 && n <= PLAN_DAYS;
    }

    private static boolean isChanceLength(int n) {
        return n >= 0 && n <= CHANCE_DAYS;
    }

    private static boolean isGame(int n, int v) {
        return n >= 0 && n <= GAME_DAYS && v >= 0 && v <= TOP_PRICE;
    }

    private boolean canGo(int r) {
        return rows.isAllWithin(r, -1, 1) && plan.firstThatCannotBe(rows, r) == rows.sizeOf(r);
    }

    private void layPlan(int n, int r) {
        rows.make(r, n);
        int border = days.border;
        for (int k = 0; k < n; k++) {
            int move = plan.firstMove(k, border);
            rows.set(r, k, move);
            border += move;
        }
    }

    private int stripFact(int i, int what) {
        switch (what) {
            case 0:
                return ground.kindOf(i);
            case 1:
                return ground.dueOf(i);
            case 2:
                return Ground.crownOf(i, days.border);
            case 3:
                return days.paidBy(i, 0);
            case 4:
                return days.paidBy(i, 1);
            default:
                return days.changesOf(i);
        }
    }

    private int keptLands() {
        int n = 0;
        for (int k = 0; k < KEPT; k++) {
            if (keptDone[k] != MISSING) {
                n++;
            }
        }
        return n;
    }

    /** Rows of numbers that are there or missing; TEXTS are such rows too, of bytes. */
    private static final class Shelf {
        private final int many;
        private final int limit;
        private final int filler;
        private final int[] sizes;
        private final int[] places;

        Shelf(int many, int limit, int filler) {
            this.many = Math.max(0, many);
            this.limit = Math.max(0, limit);
            this.filler = filler;
            sizes = new int[this.many];
            places = new int[this.many * this.limit];
            Arrays.fill(sizes, MISSING);
        }

        boolean isNumber(int r) {
            return r >= 0 && r < many;
        }

        boolean isThere(int r) {
            return sizeOf(r) != MISSING;
        }

        int sizeOf(int r) {
            return r >= 0 && r < many ? sizes[r] : MISSING;
        }

        boolean hasPlace(int r, int i) {
            return i >= 0 && i < sizeOf(r);
        }

        /** Written as a difference, since i + n could wrap around. */
        boolean holds(int r, int i, int n) {
            return i >= 0 && n >= 0 && n <= sizeOf(r) - i;
        }

        void make(int r, int n) {
            if (!isNumber(r) || n < 0 || n > limit) {
                return;
            }
            sizes[r] = n;
            for (int i = 0; i < n; i++) {
                places[r * limit + i] = filler;
            }
        }

        void remove(int r) {
            if (isNumber(r)) {
                sizes[r] = MISSING;
            }
        }

        int get(int r, int i) {
            return i >= 0 && i < sizeOf(r) ? places[r * limit + i] : 0;
        }

        void set(int r, int i, int v) {
            if (hasPlace(r, i)) {
                places[r * limit + i] = v;
            }
        }

        void bring(int r, int i, int to, int j, int n) {
            if (holds(r, i, n) && holds(to, j, n)) {
                System.arraycopy(places, r * limit + i, places, to * limit + j, n);
            }
        }

        long sum(int r) {
            long all = 0;
            for (int i = 0; i < sizeOf(r); i++) {
                all += get(r, i);
            }
            return all;
        }

        boolean isAllWithin(int r, int low, int high) {
            for (int i = 0; i < sizeOf(r); i++) {
                int v = get(r, i);
                if (v < low || v > high) {
                    return false;
                }
            }
            return true;
        }

        int howMany() {
            int n = 0;
            for (int r = 0; r < many; r++) {
                if (isThere(r)) {
                    n++;
                }
            }
            return n;
        }

        long digestOnto(long h) {
            for (int r = 0; r < many; r++) {
                h = 31 * h + sizeOf(r);
                for (int i = 0; i < sizeOf(r); i++) {
                    h = 31 * h + get(r, i);
                }
            }
            return h;
        }
    }

    /** STRIPS with their KINDS and DUES, and what these do to the BORDER. */
    private static final class Ground {
        private static final int CANNOT = -1;

        int strips;
        private final int[] kindNumbers;
        private final int[] dues;

        Ground() {
            kindNumbers = new int[MAX_STRIPS];
            dues = new int[MAX_STRIPS];
        }

        void clear() {
            strips = 0;
        }

        boolean hasRoom() {
            return strips < MAX_STRIPS;
        }

        void add(int kind, int due) {
            if (hasRoom()) {
                kindNumbers[strips] = kind;
                dues[strips] = due;
                strips++;
            }
        }

        void takeFrom(Ground other) {
            strips = other.strips;
            System.arraycopy(other.kindNumbers, 0, kindNumbers, 0, MAX_STRIPS);
            System.arraycopy(other.dues, 0, dues, 0, MAX_STRIPS);
        }

        void setKind(int i, int kind) {
            if (has(i)) {
                kindNumbers[i] = kind;
            }
        }

        boolean has(int i) {
            return i >= 0 && i < strips;
        }

        boolean isPlace(int border) {
            return border >= 0 && border <= strips;
        }

        int kindOf(int i) {
            return has(i) ? kindNumbers[i] : STRIP;
        }

        int dueOf(int i) {
            return has(i) ? dues[i] : 0;
        }

        boolean isOf(int i, int kind) {
            int own = kindOf(i);
            return own == kind || kind == STRIP
                || own == INN && kind == FARM || own == TOWN && kind == WALL;
        }

        int howManyAre(int kind) {
            int n = 0;
            for (int i = 0; i < strips; i++) {
                if (isOf(i, kind)) {
                    n++;
                }
            }
            return n;
        }

        static int crownOf(int i, int border) {
            return i < border ? 0 : 1;
        }

        static boolean touches(int i, int border) {
            return border == i || border == i + 1;
        }

        /**
         * The least RUDENESS of a MOVE, or CANNOT. It is also the least difference of what is
         * SAID: whoever is politer says 0 then.
         */
        int rudeness(int border, int move, int day) {
            if (move == 0) {
                return 0;
            }
            int crossed = move < 0 ? border - 1 : border;
            if (crossed < 0 || crossed >= strips) {
                return CANNOT;
            }
            int kind = kindNumbers[crossed];
            if (kind == RIVER && day % 2 != 0) {
                return CANNOT;
            }
            return kind == WALL || kind == TOWN ? 2 : 1;
        }

        int borderAfter(int border, int day, int a, int b) {
            int move = Integer.compare(b, a);
            int needed = rudeness(border, move, day);
            boolean stays = needed == CANNOT || Math.abs(a - b) < needed;
            return stays ? border : border + move;
        }

        int dueTo(int crown, int i, int border, int rate) {
            int kind = kindOf(i);
            int due = dueOf(i) * rate;
            if (kind == TOWN) {
                return touches(i, border) ? due / 2 : 0;
            }
            if (crownOf(i, border) != crown) {
                return 0;
            }
            return kind == INN ? 2 * due : kind == FARM ? due : 0;
        }
    }

    /** Reads a LAND out of a TEXT, aside, so that a faulty one changes nothing. */
    private static final class Reader {
        final Ground draft;
        int border;
        int rate0;
        int rate1;
        private final Shelf texts;
        private int t;
        private int place;

        Reader(Shelf texts) {
            this.texts = texts;
            draft = new Ground();
        }

        /** The FAULT, or NONE. */
        int read(int number) {
            t = number;
            place = 0;
            draft.clear();
            for (int item = 0; item <= MAX_STRIPS; item++) {
                skipBlanks();
                if (sign() == 'b' && draft.strips >= MIN_STRIPS) {
                    return readEnd() ? NONE : place;
                }
                if (!readStrip()) {
                    return place;
                }
            }
            return place;
        }

        private void skipBlanks() {
            for (int i = 0; i < TEXT_SIZE && sign() == BLANK; i++) {
                place++;
            }
        }

        /** 0 at the TEXT's end, which is no sign of any item. */
        private int sign() {
            return texts.get(t, place);
        }

        private boolean readStrip() {
            int kind = kindOfSign(sign());
            if (kind < 0 || !draft.hasRoom()) {
                return false;
            }
            place++;
            int due = readFigure(0, 9);
            if (due < 0) {
                return false;
            }
            draft.add(kind, due);
            return true;
        }

        private boolean readEnd() {
            place++;
            border = readFigure(0, draft.strips);
            if (border < 0) {
                return false;
            }
            rate0 = readFigure(1, TOP_RATE);
            if (rate0 < 0) {
                return false;
            }
            rate1 = readFigure(1, TOP_RATE);
            if (rate1 < 0) {
                return false;
            }
            skipBlanks();
            return place >= texts.sizeOf(t);
        }

        /** -1, and it stays at its place, if it is none such. */
        private int readFigure(int low, int high) {
            int sign = sign();
            int figure = sign - '0';
            if (sign < '0' || sign > '9' || figure < low || figure > high) {
                return -1;
            }
            place++;
            return figure;
        }

        private static int kindOfSign(int sign) {
            switch (sign) {
                case 's':
                    return STRIP;
                case 'f':
                    return FARM;
                case 'w':
                    return WALL;
                case 'r':
                    return RIVER;
                case 'i':
                    return INN;
                case 't':
                    return TOWN;
                default:
                    return -1;
            }
        }
    }

    /** DAYS that were, where the BORDER lay, what was paid, and the RATES. */
    private static final class Days {
        private static final int PAID = TAX_DAYS * MAX_STRIPS * CROWNS;

        int done;
        int border;
        private int rate0;
        private int rate1;
        private final int[] saidBy0;
        private final int[] saidBy1;
        private final int[] ahead;
        private final int[] paid;

        Days() {
            saidBy0 = new int[MAX_DAYS];
            saidBy1 = new int[MAX_DAYS];
            ahead = new int[MAX_DAYS + 1];
            paid = new int[PAID];
        }

        static boolean isTaxDay(int day) {
            return day >= 0 && day < MAX_DAYS && day % TAX_EVERY == TAX_EVERY - 1;
        }

        void begin(int at, int firstRate, int secondRate) {
            done = 0;
            border = at;
            rate0 = firstRate;
            rate1 = secondRate;
            ahead[0] = at;
        }

        static void carry(Days from, Days to) {
            if (from == null || to == null) {
                return;
            }
            to.done = from.done;
            to.border = from.border;
            to.rate0 = from.rate0;
            to.rate1 = from.rate1;
            System.arraycopy(from.saidBy0, 0, to.saidBy0, 0, MAX_DAYS);
            System.arraycopy(from.saidBy1, 0, to.saidBy1, 0, MAX_DAYS);
            System.arraycopy(from.ahead, 0, to.ahead, 0, MAX_DAYS + 1);
            System.arraycopy(from.paid, 0, to.paid, 0, PAID);
        }

        int rateOf(int crown) {
            return crown == 0 ? rate0 : rate1;
        }

        void setRate(int crown, int v) {
            if (crown == 0) {
                rate0 = v;
            } else {
                rate1 = v;
            }
        }

        void pass(Ground ground, int a, int b) {
            if (done < 0 || done >= MAX_DAYS) {
                return;
            }
            saidBy0[done] = a;
            saidBy1[done] = b;
            border = ground.borderAfter(border, done, a, b);
            if (isTaxDay(done)) {
                collect(ground);
            }
            done++;
            ahead[done] = border;
        }

        /** What is paid is noted by its DAY: RATES may change, and DAYS may be undone. */
        private void collect(Ground ground) {
            for (int i = 0; i < ground.strips; i++) {
                for (int crown = 0; crown < CROWNS; crown++) {
                    int slot = slotOf(done / TAX_EVERY, i, crown);
                    if (slot >= 0 && slot < PAID) {
                        paid[slot] = ground.dueTo(crown, i, border, rateOf(crown));
                    }
                }
            }
        }

        private static int slotOf(int tax, int i, int crown) {
            return (tax * MAX_STRIPS + i) * CROWNS + crown;
        }

        void goBackTo(int day) {
            if (day >= 0 && day <= done) {
                border = borderAhead(day);
                done = day;
            }
        }

        int borderAhead(int day) {
            return day >= 0 && day <= MAX_DAYS ? ahead[day] : 0;
        }

        int paidBy(int i, int crown) {
            int all = 0;
            for (int tax = 0; tax < done / TAX_EVERY; tax++) {
                int slot = slotOf(tax, i, crown);
                if (slot >= 0 && slot < PAID) {
                    all += paid[slot];
                }
            }
            return all;
        }

        int changesOf(int i) {
            int n = 0;
            for (int day = 0; day < done; day++) {
                int was = Ground.crownOf(i, borderAhead(day));
                if (was != Ground.crownOf(i, borderAhead(day + 1))) {
                    n++;
                }
            }
            return n;
        }

        int dueOfBoth(Ground ground, int i, int at) {
            return ground.dueTo(0, i, at, rate0) + ground.dueTo(1, i, at, rate1);
        }

        int dueToCrown(Ground ground, int crown, int at) {
            int all = 0;
            for (int i = 0; i < ground.strips; i++) {
                all += ground.dueTo(crown, i, at, rateOf(crown));
            }
            return all;
        }

        /** Where the BORDER would be ahead of each DAY, had it begun elsewhere or on other ground. */
        void retrace(Ground ground, int start, int[] trail) {
            if (trail.length <= MAX_DAYS) {
                return;
            }
            trail[0] = start;
            for (int day = 0; day < done && day < MAX_DAYS; day++) {
                trail[day + 1] = ground.borderAfter(trail[day], day, saidBy0[day], saidBy1[day]);
            }
        }
    }

    /** Rows of MOVES from now on: which can be, which cost least, how many there are. */
    private static final class Plan {
        static final int ANYWHERE = -1, FAR = 1000000;

        private final Ground ground;
        private final Days days;
        private final int[] tolls;
        private final int[] costs;
        private final long[] many;
        private final long[] manyNext;
        private boolean byRudeness;

        Plan(Ground ground, Days days) {
            this.ground = ground;
            this.days = days;
            tolls = new int[PLACES];
            costs = new int[(PLAN_DAYS + 1) * PLACES];
            many = new long[PLACES];
            manyNext = new long[PLACES];
        }

        int firstThatCannotBe(Shelf rows, int r) {
            int size = rows.sizeOf(r);
            int border = days.border;
            for (int k = 0; k < size; k++) {
                int move = rows.get(r, k);
                if (ground.rudeness(border, move, days.done + k) < 0) {
                    return k;
                }
                border += move;
            }
            return size;
        }

        int borderBehind(Shelf rows, int r, int n) {
            int border = days.border;
            for (int k = 0; k < n; k++) {
                border += rows.get(r, k);
            }
            return border;
        }

        int rudenessOf(Shelf rows, int r) {
            int all = 0;
            int border = days.border;
            for (int k = 0; k < rows.sizeOf(r); k++) {
                int move = rows.get(r, k);
                all += ground.rudeness(border, move, days.done + k);
                border += move;
            }
            return all;
        }

        int tollsOf(Shelf rows, int r) {
            int all = 0;
            int border = days.border;
            for (int k = 0; k < rows.sizeOf(r); k++) {
                border += rows.get(r, k);
                all += tollAt(border, days.done + k);
            }
            return all;
        }

        void tollNothing() {
            Arrays.fill(tolls, 0);
        }

        void tollOfStrip(int i) {
            for (int place = 0; place < PLACES; place++) {
                tolls[place] = days.dueOfBoth(ground, i, place);
            }
        }

        /** Less than nothing, so that the least of it is the most that the CROWN gets. */
        void tollLostBy(int crown) {
            for (int place = 0; place < PLACES; place++) {
                tolls[place] = -days.dueToCrown(ground, crown, place);
            }
        }

        private int tollAt(int place, int day) {
            if (place < 0 || place >= PLACES || !Days.isTaxDay(day)) {
                return 0;
            }
            return tolls[place];
        }

        /** Finds from the last DAY back what the rest of the n DAYS costs at least. */
        void solve(int n, int goal, boolean withRudeness) {
            byRudeness = withRudeness;
            for (int place = 0; place <= ground.strips; place++) {
                setCost(n, place, goal == ANYWHERE || goal == place ? 0 : FAR);
            }
            for (int k = n - 1; k >= 0; k--) {
                for (int place = 0; place <= ground.strips; place++) {
                    setCost(k, place, leastCost(k, place));
                }
            }
        }

        private int leastCost(int k, int place) {
            int least = FAR;
            for (int move = -1; move <= 1; move++) {
                least = Math.min(least, costBy(k, place, move));
            }
            return least;
        }

        private int costBy(int k, int place, int move) {
            int day = days.done + k;
            int rudeness = ground.rudeness(place, move, day);
            int rest = costFrom(k + 1, place + move);
            if (rudeness < 0 || rest >= FAR) {
                return FAR;
            }
            return rest + (byRudeness ? rudeness : 0) + tollAt(place + move, day);
        }

        int costFrom(int k, int place) {
            if (k < 0 || k > PLAN_DAYS || place < 0 || place >= PLACES) {
                return FAR;
            }
            return costs[k * PLACES + place];
        }

        private void setCost(int k, int place, int cost) {
            if (k >= 0 && k <= PLAN_DAYS && place >= 0 && place < PLACES) {
                costs[k * PLACES + place] = cost;
            }
        }

        int firstMove(int k, int place) {
            int least = costFrom(k, place);
            for (int move = -1; move <= 1; move++) {
                if (costBy(k, place, move) == least) {
                    return move;
                }
            }
            return 0;
        }

        /** -1, if it can't be in PLAN_DAYS. */
        int fewestDaysTo(int to) {
            int places = 1 << days.border;
            for (int n = 0; n <= PLAN_DAYS; n++) {
                if ((places >> to & 1) != 0) {
                    return n;
                }
                places = spread(places, days.done + n);
            }
            return -1;
        }

        int reachIn(int n) {
            int places = 1 << days.border;
            for (int k = 0; k < n; k++) {
                places = spread(places, days.done + k);
            }
            return places;
        }

        private int spread(int places, int day) {
            int next = 0;
            for (int place = 0; place <= ground.strips; place++) {
                if ((places >> place & 1) != 0) {
                    next |= placesBehind(place, day);
                }
            }
            return next;
        }

        private int placesBehind(int place, int day) {
            int next = 0;
            for (int move = -1; move <= 1; move++) {
                if (ground.rudeness(place, move, day) >= 0) {
                    next |= 1 << (place + move);
                }
            }
            return next;
        }

        long waysTo(int to, int n) {
            Arrays.fill(many, 0L);
            if (!isSlot(to) || !isSlot(days.border)) {
                return 0;
            }
            many[days.border] = 1;
            for (int k = 0; k < n; k++) {
                Arrays.fill(manyNext, 0L);
                for (int place = 0; place <= ground.strips; place++) {
                    passOn(place, days.done + k);
                }
                System.arraycopy(manyNext, 0, many, 0, PLACES);
            }
            return many[to];
        }

        private void passOn(int place, int day) {
            int next = placesBehind(place, day);
            for (int to = 0; to <= ground.strips; to++) {
                if (isSlot(place) && isSlot(to) && (next >> to & 1) != 0) {
                    manyNext[to] += many[place];
                }
            }
        }

        private static boolean isSlot(int place) {
            return place >= 0 && place < PLACES;
        }
    }

    /** DAYS by CHANCE, told by how many of the 16 pairs a DAY (what both SAY) lead where. */
    private static final class Chance {
        private static final int PAIRS = 16, NEVER = -1;

        private final Ground ground;
        private final Days days;
        private final long[] pairs;
        private final long[] pairsNext;

        Chance(Ground ground, Days days) {
            this.ground = ground;
            this.days = days;
            pairs = new long[PLACES];
            pairsNext = new long[PLACES];
        }

        static long pairsIn(int n) {
            long all = 1;
            for (int k = 0; k < n; k++) {
                all *= PAIRS;
            }
            return all;
        }

        long pairsEndingAt(int to, int n) {
            begin();
            for (int k = 0; k < n; k++) {
                goOn(days.done + k, NEVER);
            }
            return pairsAt(to);
        }

        /** Whoever has come there stays there, so the end tells whether it was met. */
        long pairsMeeting(int to, int n) {
            begin();
            for (int k = 0; k < n; k++) {
                goOn(days.done + k, to);
            }
            return pairsAt(to);
        }

        /** What the STRIP pays by all pairs of n DAYS together. */
        long duesOf(int i, int n) {
            begin();
            long all = 0;
            for (int k = 0; k < n; k++) {
                goOn(days.done + k, NEVER);
                all *= PAIRS;
                if (Days.isTaxDay(days.done + k)) {
                    all += duesNow(i);
                }
            }
            return all;
        }

        private long duesNow(int i) {
            long all = 0;
            for (int place = 0; place <= ground.strips; place++) {
                all += pairsAt(place) * days.dueOfBoth(ground, i, place);
            }
            return all;
        }

        private void begin() {
            Arrays.fill(pairs, 0L);
            if (days.border >= 0 && days.border < PLACES) {
                pairs[days.border] = 1;
            }
        }

        private long pairsAt(int place) {
            return place >= 0 && place < PLACES ? pairs[place] : 0;
        }

        private void goOn(int day, int end) {
            Arrays.fill(pairsNext, 0L);
            for (int place = 0; place <= ground.strips; place++) {
                int west = place == end ? 0 : pairsThatMove(place, -1, day);
                int east = place == end ? 0 : pairsThatMove(place, 1, day);
                bring(place - 1, west * pairsAt(place));
                bring(place, (PAIRS - west - east) * pairsAt(place));
                bring(place + 1, east * pairsAt(place));
            }
            System.arraycopy(pairsNext, 0, pairs, 0, PLACES);
        }

        private void bring(int place, long more) {
            if (place >= 0 && place < PLACES) {
                pairsNext[place] += more;
            }
        }

        private int pairsThatMove(int place, int move, int day) {
            int needed = ground.rudeness(place, move, day);
            int n = 0;
            for (int gap = needed; needed > 0 && gap <= RUDEST; gap++) {
                n += RUDEST + 1 - gap;
            }
            return n;
        }
    }

    /** What to SAY by turns: CROWN 0 first, CROWN 1 having heard it. */
    private static final class Turns {
        private final Ground ground;
        private final Days days;
        private final int[] worths;
        private final int[] sayings;
        private int price;

        Turns(Ground ground, Days days) {
            this.ground = ground;
            this.days = days;
            worths = new int[(GAME_DAYS + 1) * PLACES];
            sayings = new int[(GAME_DAYS + 1) * PLACES];
        }

        /** Rudeness counts the same whenever it was, so a place and a DAY tell all that is to come. */
        void solve(int n, int v) {
            price = v;
            for (int place = 0; place <= ground.strips; place++) {
                note(n, place, 2 * place - ground.strips, 0);
            }
            for (int k = n - 1; k >= 0; k--) {
                for (int place = 0; place <= ground.strips; place++) {
                    choose(k, place);
                }
            }
        }

        private void choose(int k, int place) {
            int best = 0;
            int most = 0;
            for (int a = 0; a <= RUDEST; a++) {
                int worth = worthOfBoth(k, place, a, bestReply(k, place, a));
                if (a == 0 || worth > most) {
                    most = worth;
                    best = a;
                }
            }
            note(k, place, most, best);
        }

        private int bestReply(int k, int place, int a) {
            int best = 0;
            int least = worthOfBoth(k, place, a, 0);
            for (int b = 1; b <= RUDEST; b++) {
                int worth = worthOfBoth(k, place, a, b);
                if (worth < least) {
                    least = worth;
                    best = b;
                }
            }
            return best;
        }

        private int worthOfBoth(int k, int place, int a, int b) {
            int next = ground.borderAfter(place, days.done + k, a, b);
            return price * (a - b) + worthOf(k + 1, next);
        }

        private void note(int k, int place, int worth, int saying) {
            if (isSlot(k, place)) {
                worths[k * PLACES + place] = worth;
                sayings[k * PLACES + place] = saying;
            }
        }

        int worthOf(int k, int place) {
            return isSlot(k, place) ? worths[k * PLACES + place] : 0;
        }

        int bestSaying(int k, int place) {
            return isSlot(k, place) ? sayings[k * PLACES + place] : 0;
        }

        private static boolean isSlot(int k, int place) {
            return k >= 0 && k <= GAME_DAYS && place >= 0 && place < PLACES;
        }

        /** As long as both are polite the BORDER stays, so each DAY is judged from here. */
        boolean isCalm(int n) {
            for (int k = 0; k < n; k++) {
                if (bestSaying(k, days.border) != 0 || bestReply(k, days.border, 0) != 0) {
                    return false;
                }
            }
            return true;
        }
    }

    /** What can have been: where the BORDER began, of which KIND a STRIP was. */
    private static final class Past {
        static final int ENTRY = 3;

        private final Ground ground;
        private final Days days;
        private final Ground guess;
        private final int[] trail;

        Past(Ground ground, Days days) {
            this.ground = ground;
            this.days = days;
            guess = new Ground();
            trail = new int[MAX_DAYS + 1];
        }

        boolean areBooks(Shelf rows, int r) {
            for (int i = 0; i < rows.sizeOf(r); i += ENTRY) {
                int day = rows.get(r, i);
                if (day < 0 || day > days.done) {
                    return false;
                }
                if (!ground.has(rows.get(r, i + 1)) || !isCrown(rows.get(r, i + 2))) {
                    return false;
                }
            }
            return true;
        }

        int startsThatFit(Shelf rows, int r) {
            int fitting = 0;
            for (int start = 0; start <= ground.strips; start++) {
                days.retrace(ground, start, trail);
                if (fits(rows, r)) {
                    fitting |= 1 << start;
                }
            }
            return fitting;
        }

        private boolean fits(Shelf rows, int r) {
            for (int i = 0; i < rows.sizeOf(r); i += ENTRY) {
                int place = trailAt(rows.get(r, i));
                if (Ground.crownOf(rows.get(r, i + 1), place) != rows.get(r, i + 2)) {
                    return false;
                }
            }
            return true;
        }

        private int trailAt(int day) {
            return day >= 0 && day <= MAX_DAYS ? trail[day] : 0;
        }

        int kindsThatFit(int i) {
            int fitting = 0;
            guess.takeFrom(ground);
            for (int kind = 0; kind < KINDS; kind++) {
                guess.setKind(i, kind);
                days.retrace(guess, days.borderAhead(0), trail);
                if (trailAt(days.done) == days.border) {
                    fitting |= 1 << kind;
                }
            }
            return fitting;
        }
    }
}
