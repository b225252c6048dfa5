/** A train that shall start uphill on a rail that changes by the minute; ../shared/DOC.md says the whole. */
public final class WheelsSlip {
    public static final int BAD = -1;
    public static final int FULL = -2;
    public static final int FINDING = -3;
    public static final int STATE = -4;
    public static final int SPENT = -6;
    public static final int NONE = -9;

    private static final int NOTHING = 1;
    private static final int BEYOND = 2;
    private static final int UNLIKE = 3;
    private static final int NOUGHT = 4;
    private static final int SIZE = 5;
    private static final int FINDINGS = 6;
    private static final int FINE = 0;

    private static final int ROWS = 6;
    private static final int TEXTS = 4;
    private static final int PLACES = 3;
    private static final int ROW_MOST = 40;
    private static final int TEXT_MOST = 60;
    private static final int RAILS_MOST = 6;
    private static final int WAGONS_MOST = 6;
    private static final int DEEDS_MOST = 60;
    private static final int RUN_MOST = 12;
    private static final int ODDS_MOST = 6;
    private static final int SEARCH_MOST = 4;
    private static final int LOTS_MOST = 20;

    private static final int COUNTS = 8;
    private static final int ENGINE_FACTS = 10;
    private static final int WAGON_FACTS = 6;

    private static final int BLANK = 32;
    private static final int BYTE_SHIFT = 1000;

    private static final int WAGON = 0;
    private static final int HEAVY = 1;
    private static final int SLACK = 2;
    private static final int PUSHED = 3;
    private static final int RUSTY = 4;
    private static final int BRAKED = 5;

    private static final int DRY = 0;
    private static final int LEAVES = 2;

    private static final int STEAM_MOST = 9;
    private static final int STREW = 10;
    private static final int BLOW = 11;
    private static final int BACK = 12;
    private static final int BRAKE_OFF = 13;
    private static final int BRAKE_ON = 14;
    private static final int THINGS = 15;

    private static final int IDLE = 0;
    private static final int SLIPPED = 1;
    private static final int TAKEN_UP = 2;
    private static final int TORE = 3;
    private static final int WENT = 4;
    private static final int ROLLED = 5;
    private static final int OTHER = 6;

    private static final int TRY = 3;
    private static final int WEIGHT_MOST = 9;
    private static final int WEIGHT_BITS = 1022;
    private static final int TWELVE = 12;
    private static final int STRAIN_SHIFT = 100;
    private static final int LOT_FACTOR = 48271;
    private static final int LOT_MODULUS = 2147483647;
    private static final int LOT_CUT = 16;

    private final Row[] rows = new Row[ROWS];
    private final Row[] texts = new Row[TEXTS];
    private final Row[] kept = new Row[PLACES];
    private final Row deeds = new Row(DEEDS_MOST);
    private final Row tally = new Row(FINDINGS);
    private final Row plan = new Row(SEARCH_MOST);
    private final Row parts = new Row(LEAVES + 1);
    private final Reader reader = new Reader();
    private final Consist draft = new Consist();
    private final Consist consist = new Consist();
    private final Train now = new Train(consist, null);
    private final Train aside;
    private boolean hasTrain;
    private int asked;
    private long upper;
    private long lower = 1;
    private int finding;

    public WheelsSlip() {
        for (int i = 0; i < rows.length; i++) {
            rows[i] = new Row(ROW_MOST);
        }
        for (int i = 0; i < texts.length; i++) {
            texts[i] = new Row(TEXT_MOST);
        }
        for (int i = 0; i < kept.length; i++) {
            kept[i] = new Row(DEEDS_MOST);
        }
        deeds.renew(0, 0);
        tally.renew(FINDINGS, 0);
        plan.renew(SEARCH_MOST, 0);
        parts.renew(LEAVES + 1, 0);
        Train chain = new Train(consist, null);
        for (int i = 0; i < ODDS_MOST; i++) {
            chain = new Train(consist, chain);
        }
        aside = chain;
    }

    // ---- 1 rows, texts, trains

    public int row(int r, int n) {
        return renewed(pick(rows, r), n, ROW_MOST, 0);
    }

    public int lay(int r, int i, int v) {
        Row row = pick(rows, r);
        if (row == null) {
            return BAD;
        }
        int refused = refusedPlace(row, i);
        if (refused != FINE) {
            return refused;
        }
        int was = row.cell(i);
        row.set(i, v);
        return tell(was, 1);
    }

    public int at(int r, int i) {
        Row row = pick(rows, r);
        if (row == null) {
            return BAD;
        }
        int refused = refusedPlace(row, i);
        return refused == FINE ? tell(row.cell(i), 1) : refused;
    }

    public int tear(int r) {
        Row row = pick(rows, r);
        if (row == null) {
            return BAD;
        }
        if (!row.isThere()) {
            return found(NOTHING);
        }
        row.goMissing();
        return 1;
    }

    public int copy(int r, int i, int to, int j, int n) {
        Row from = pick(rows, r);
        Row into = pick(rows, to);
        if (from == null || into == null) {
            return BAD;
        }
        if (n < 0) {
            return found(SIZE);
        }
        if (!from.isThere() || !into.isThere()) {
            return found(NOTHING);
        }
        return into.takes(from, i, j, n) ? 1 : found(BEYOND);
    }

    public int mean(int r) {
        Row row = pick(rows, r);
        if (row == null) {
            return BAD;
        }
        if (!row.isThere()) {
            return found(NOTHING);
        }
        if (row.size == 0) {
            return found(NOUGHT);
        }
        return tell((int) (row.sum() / row.size), 1);
    }

    public int text(int t, int n) {
        return renewed(pick(texts, t), n, TEXT_MOST, BLANK);
    }

    public int put(int t, int i, int v) {
        Row text = pick(texts, t);
        if (text == null) {
            return BAD;
        }
        int refused = refusedPlace(text, i);
        if (refused != FINE) {
            return refused;
        }
        int was = text.cell(i);
        text.set(i, (byte) v);
        return was + BYTE_SHIFT;
    }

    public int fault(int t) {
        Row text = pick(texts, t);
        if (text == null) {
            return BAD;
        }
        return text.isThere() ? reader.faultOf(text, draft) : found(NOTHING);
    }

    public int train(int t) {
        Row text = pick(texts, t);
        if (text == null) {
            return BAD;
        }
        if (!text.isThere()) {
            return found(NOTHING);
        }
        // The draft is read first, so that a FAULT leaves the TRAIN that there is.
        if (reader.faultOf(text, draft) != NONE) {
            return STATE;
        }
        reader.faultOf(text, consist);
        hasTrain = true;
        deeds.renew(0, 0);
        for (int k = 0; k < PLACES; k++) {
            Row place = pick(kept, k);
            if (place != null) {
                place.goMissing();
            }
        }
        doDeedsAnew();
        return now.wagons;
    }

    public int wagon(int i, int what) {
        if (i < 0 || i >= now.wagons || what < 0 || what >= WAGON_FACTS) {
            return BAD;
        }
        return tell(wagonFact(i, what), 1);
    }

    public int mark(int i, int kind) {
        if (i < 0 || i >= now.wagons || kind <= WAGON || kind > BRAKED) {
            return BAD;
        }
        if (!consist.isOf(i, kind)) {
            return found(UNLIKE);
        }
        switch (kind) {
            case HEAVY:
                return consist.tons.cell(i);
            case SLACK:
                return consist.manyOf(SLACK, i);
            case PUSHED:
                return leastSteam(consist.weighs(i, now.brakeOn));
            case RUSTY:
                return consist.couplings.cell(i) - consist.holds(i);
            default:
                return now.wagons - 1 - i;
        }
    }

    public int engine(int what) {
        if (!hasTrain) {
            return STATE;
        }
        if (what < 0 || what >= ENGINE_FACTS) {
            return BAD;
        }
        return tell(engineFact(what), 1);
    }

    // ---- 2 deeds

    public int go(int thing) {
        if (thing < 0 || thing >= THINGS) {
            return BAD;
        }
        if (!hasTrain || !now.canBe(thing)) {
            return STATE;
        }
        return deeds.size < DEEDS_MOST ? doDeed(thing) : FULL;
    }

    public int undo(int n) {
        if (n < 0 || n > deeds.size) {
            return BAD;
        }
        int undone = deeds.size - n;
        deeds.shorten(n);
        doDeedsAnew();
        return undone;
    }

    public int keep(int k) {
        Row place = pick(kept, k);
        if (place == null) {
            return BAD;
        }
        if (!hasTrain) {
            return STATE;
        }
        place.becomes(deeds);
        return deeds.size;
    }

    public int on(int k) {
        Row place = pick(kept, k);
        if (place == null) {
            return BAD;
        }
        if (!place.isThere()) {
            return found(NOTHING);
        }
        deeds.becomes(place);
        doDeedsAnew();
        return deeds.size;
    }

    // ---- 3 what grips, pulls, jerks

    public int grip() {
        if (!hasTrain) {
            return STATE;
        }
        int rail = now.rail();
        return tell(now.gripOn(rail, true), now.gripOn(rail, now.sanded));
    }

    public int load(int n) {
        return n < 0 || n > now.wagons ? BAD : now.loadOf(n);
    }

    public int steam() {
        if (!hasTrain) {
            return STATE;
        }
        int least = leastSteam(now.loadOf(Math.min(now.taken + 1, now.wagons)));
        int most = Math.min(STEAM_MOST, now.gripOn(now.rail(), now.sanded) / 2);
        return tell(least, most);
    }

    public int would(int steam) {
        if (steam < 0 || steam > STEAM_MOST) {
            return BAD;
        }
        return hasTrain ? now.comesOf(steam, now.rail()) : STATE;
    }

    public int worst() {
        int worst = NONE;
        int most = 0;
        for (int i = 0; i < now.wagons; i++) {
            int least = leastSteam(now.loadOf(i + 1));
            if (least != NONE && (worst == NONE || now.strainOf(i, least) > most)) {
                worst = i;
                most = now.strainOf(i, least);
            }
        }
        return worst == NONE ? NONE : tell(most + STRAIN_SHIFT, worst);
    }

    // ---- 4 plans (aside)

    public int run(int r) {
        Row things = pick(rows, r);
        if (things == null) {
            return BAD;
        }
        int refused = refusedPlan(things, RUN_MOST);
        if (refused != FINE) {
            return refused;
        }
        stepAside(0);
        for (int i = 0; i < things.size; i++) {
            int thing = things.cell(i);
            if (aside.canBe(thing)) {
                aside.does(thing, aside.rail());
            }
        }
        return tell(aside.wagons, aside.gone);
    }

    public int shortest(int n, int r) {
        Row row = pick(rows, r);
        if (row == null || n < 0 || n > SEARCH_MOST) {
            return BAD;
        }
        if (!hasTrain) {
            return STATE;
        }
        stepAside(0);
        for (int many = 1; many <= n; many++) {
            if (Plans.startsWithin(aside, 0, many, plan)) {
                row.renew(many, 0);
                row.takes(plan, 0, 0, many);
                return many;
            }
        }
        return NONE;
    }

    public int ways(int n) {
        if (n < 0 || n > SEARCH_MOST) {
            return BAD;
        }
        if (!hasTrain) {
            return STATE;
        }
        stepAside(0);
        return tell(Plans.startingWays(aside, n, false), Plans.startingWays(aside, n, true));
    }

    public int stay(int n) {
        if (n < 0 || n > SEARCH_MOST) {
            return BAD;
        }
        if (!hasTrain) {
            return STATE;
        }
        for (int many = 0; many <= now.wagons; many++) {
            stepAside(many);
            if (Plans.startsWithin(aside, 0, n, plan)) {
                return many;
            }
        }
        return NONE;
    }

    public int bad() {
        if (!hasTrain) {
            return STATE;
        }
        int worst = now.minute;
        int least = now.gripOn(now.rail(), now.sanded);
        for (int ahead = 1; ahead < consist.rails.size; ahead++) {
            int grip = now.gripOn(consist.railAt(now.minute + ahead), now.sanded);
            if (grip < least) {
                worst = now.minute + ahead;
                least = grip;
            }
        }
        return tell(least, worst);
    }

    // ---- 5 chances

    public int odds(int r, int d, int w) {
        Row things = pick(rows, r);
        if (things == null || d < 0 || d > TWELVE || w < 0 || w > TWELVE - d) {
            return BAD;
        }
        int refused = refusedPlan(things, ODDS_MOST);
        if (refused != FINE) {
            return refused;
        }
        parts.set(0, d);
        parts.set(1, w);
        parts.set(2, TWELVE - d - w);
        stepAside(0);
        long all = 1;
        for (int i = 0; i < things.size; i++) {
            all *= TWELVE;
        }
        tellChances(Plans.startingChances(aside, things, 0, parts), all);
        return 1;
    }

    // ---- 6 a book

    public int weights(int r) {
        Row book = pick(rows, r);
        if (book == null) {
            return BAD;
        }
        int refused = refusedBook(book);
        if (refused != FINE) {
            return refused;
        }
        int set = 0;
        for (int weight = 1; weight <= WEIGHT_MOST; weight++) {
            if (countLies(book, weight) == 0) {
                set |= 1 << weight;
            }
        }
        return set;
    }

    public int lies(int r, int weight) {
        Row book = pick(rows, r);
        if (book == null || weight < 1 || weight > WEIGHT_MOST) {
            return BAD;
        }
        int refused = refusedBook(book);
        if (refused != FINE) {
            return refused;
        }
        int first = 0;
        while (first * TRY < book.size && !isLie(book, weight, first)) {
            first++;
        }
        return tell(first * TRY < book.size ? first : NONE, countLies(book, weight));
    }

    public int trial(int set, int rail) {
        if (set == 0 || (set & ~WEIGHT_BITS) != 0 || rail < DRY || rail > LEAVES) {
            return BAD;
        }
        int all = Integer.bitCount(set);
        int best = 0;
        int least = all;
        for (int steam = 0; steam <= STEAM_MOST; steam++) {
            int slipping = 0;
            for (int weight = 1; weight <= WEIGHT_MOST; weight++) {
                boolean within = (set >> weight & 1) == 1;
                slipping += within && slips(weight, rail, steam) ? 1 : 0;
            }
            int greater = Math.max(slipping, all - slipping);
            if (greater < least) {
                best = steam;
                least = greater;
            }
        }
        return tell(least, best);
    }

    public int lots(int n, int seed) {
        if (n < 1 || n > LOTS_MOST || seed < 1 || seed >= LOT_MODULUS) {
            return BAD;
        }
        if (!hasTrain) {
            return STATE;
        }
        if (deeds.size + n > DEEDS_MOST) {
            return FULL;
        }
        int before = now.gone;
        long lot = seed;
        for (int i = 0; i < n; i++) {
            lot = lot * LOT_FACTOR % LOT_MODULUS;
            int thing = (int) (lot / LOT_CUT % THINGS);
            doDeed(now.canBe(thing) ? thing : BLOW);
        }
        return now.gone - before;
    }

    // ---- 7 what is told

    public int asked() {
        return asked;
    }

    public long upper() {
        return upper;
    }

    public long lower() {
        return lower;
    }

    public int count(int what) {
        return what < 0 || what >= COUNTS ? BAD : countFact(what);
    }

    public int finding() {
        return finding;
    }

    public int findings(int f) {
        return f < NOTHING || f > SIZE ? BAD : tally.cell(f);
    }

    public long digest() {
        long h = 17;
        for (int what = 0; what < COUNTS; what++) {
            h = 31 * h + countFact(what);
        }
        for (int what = 0; hasTrain && what < ENGINE_FACTS; what++) {
            h = 31 * h + engineFact(what);
        }
        for (int i = 0; i < now.wagons; i++) {
            for (int what = 0; what < WAGON_FACTS; what++) {
                h = 31 * h + wagonFact(i, what);
            }
        }
        for (int k = 0; k < PLACES; k++) {
            Row place = pick(kept, k);
            h = 31 * h + (place == null ? Row.MISSING : place.size);
        }
        return digestOf(texts, digestOf(rows, h));
    }

    // ---- what the calls share

    private static Row pick(Row[] from, int i) {
        return i >= 0 && i < from.length ? from[i] : null;
    }

    private static int countThere(Row[] from) {
        int many = 0;
        for (Row row : from) {
            many += row != null && row.isThere() ? 1 : 0;
        }
        return many;
    }

    private static long digestOf(Row[] from, long ahead) {
        long h = ahead;
        for (Row row : from) {
            if (row != null) {
                h = 31 * h + row.size;
                for (int i = 0; i < row.size; i++) {
                    h = 31 * h + row.cell(i);
                }
            }
        }
        return h;
    }

    private int tell(int told, int answer) {
        asked = told;
        return answer;
    }

    private int found(int what) {
        finding = what;
        tally.set(what, tally.cell(what) + 1);
        return FINDING;
    }

    private void tellChances(long part, long all) {
        long divisor = Math.max(1, commonDivisor(part, all));
        upper = part / divisor;
        lower = all / divisor;
    }

    private static long commonDivisor(long a, long b) {
        long greater = a;
        long less = b;
        // Each second step halves the greater one at least: 128 are enough for any two longs.
        for (int i = 0; i < 128 && less != 0; i++) {
            long rest = greater % less;
            greater = less;
            less = rest;
        }
        return greater;
    }

    private int renewed(Row row, int n, int most, int filler) {
        if (row == null || n > most) {
            return BAD;
        }
        if (n < 0) {
            return found(SIZE);
        }
        row.renew(n, filler);
        return n;
    }

    private int refusedPlace(Row row, int i) {
        if (!row.isThere()) {
            return found(NOTHING);
        }
        return row.has(i) ? FINE : found(BEYOND);
    }

    private int refusedPlan(Row things, int most) {
        if (!hasTrain) {
            return STATE;
        }
        if (!things.isThere()) {
            return found(NOTHING);
        }
        if (things.size > most) {
            return found(SIZE);
        }
        for (int i = 0; i < things.size; i++) {
            if (things.cell(i) < 0 || things.cell(i) >= THINGS) {
                return found(UNLIKE);
            }
        }
        return FINE;
    }

    private int refusedBook(Row book) {
        if (!book.isThere()) {
            return found(NOTHING);
        }
        if (book.size % TRY != 0) {
            return found(SIZE);
        }
        for (int i = 0; i < book.size; i++) {
            int part = i % TRY;
            int most = part == 0 ? LEAVES : part == 1 ? STEAM_MOST : 1;
            if (book.cell(i) < 0 || book.cell(i) > most) {
                return found(UNLIKE);
            }
        }
        return FINE;
    }

    private static int countLies(Row book, int weight) {
        int many = 0;
        for (int i = 0; i * TRY < book.size; i++) {
            many += isLie(book, weight, i) ? 1 : 0;
        }
        return many;
    }

    private static boolean isLie(Row book, int weight, int i) {
        int place = i * TRY;
        boolean slipped = book.cell(place + 2) == 1;
        return slips(weight, book.cell(place), book.cell(place + 1)) != slipped;
    }

    private static boolean slips(int weight, int rail, int steam) {
        return 2 * steam > weight * gripFactor(rail);
    }

    private static int gripFactor(int rail) {
        return 3 - rail;
    }

    /** The least STEAM that PULLS no less than a load; NONE, if even all of it PULLS less. */
    private static int leastSteam(int load) {
        int least = (load + 1) / 2;
        return least <= STEAM_MOST ? least : NONE;
    }

    private int doDeed(int thing) {
        deeds.add(thing);
        return now.does(thing, now.rail());
    }

    private void doDeedsAnew() {
        now.begins();
        for (int i = 0; i < deeds.size; i++) {
            now.does(deeds.cell(i), now.rail());
        }
    }

    /** The train aside is as it is now, but for some wagons that stay; its GONE tells how much further it went. */
    private void stepAside(int staying) {
        aside.becomes(now);
        aside.gone = 0;
        aside.wagons = Math.max(0, now.wagons - staying);
        aside.taken = Math.min(now.taken, aside.wagons);
    }

    private int wagonFact(int i, int what) {
        switch (what) {
            case 0:
                return consist.kinds.cell(i);
            case 1:
                return consist.tons.cell(i);
            case 2:
                return consist.weighs(i, now.brakeOn);
            case 3:
                return consist.holds(i);
            case 4:
                return consist.slackness(i);
            default:
                return i < now.taken ? 1 : 0;
        }
    }

    private int engineFact(int what) {
        switch (what) {
            case 0:
                return consist.weight;
            case 1:
                return now.steam;
            case 2:
                return now.sand;
            case 3:
                return consist.hill;
            case 4:
                return now.hollow;
            case 5:
                return now.sanded ? 1 : 0;
            case 6:
                return now.brakeOn ? 1 : 0;
            case 7:
                return now.taken;
            case 8:
                return now.minute;
            default:
                return now.gone;
        }
    }

    private int countFact(int what) {
        switch (what) {
            case 0:
                return now.wagons;
            case 1:
                return consist.rails.size;
            case 2:
                return deeds.size;
            case 3:
                return now.loadOf(now.wagons);
            case 4:
                return consist.manyOf(HEAVY, now.wagons);
            case 5:
                return countThere(rows);
            case 6:
                return countThere(texts);
            default:
                return countThere(kept);
        }
    }

    /** A row of numbers with room for some; missing at first. Its cells are reached through tested places alone. */
    private static final class Row {
        private static final int MISSING = -1;
        private final int[] cells;
        private int size = MISSING;

        private Row(int room) {
            cells = new int[Math.max(0, room)];
        }

        private boolean isThere() {
            return size >= 0;
        }

        private boolean has(int i) {
            return i >= 0 && i < size && i < cells.length;
        }

        private int cell(int i) {
            return i >= 0 && i < size && i < cells.length ? cells[i] : 0;
        }

        private void set(int i, int v) {
            if (has(i)) {
                cells[i] = v;
            }
        }

        private void add(int v) {
            if (isThere() && size < cells.length) {
                size++;
                set(size - 1, v);
            }
        }

        private void renew(int n, int filler) {
            size = Math.max(0, Math.min(n, cells.length));
            for (int i = 0; i < size; i++) {
                set(i, filler);
            }
        }

        private void shorten(int n) {
            size = Math.min(size, n);
        }

        private void goMissing() {
            size = MISSING;
        }

        private void becomes(Row other) {
            size = Math.min(other.size, cells.length);
            for (int i = 0; i < size; i++) {
                set(i, other.cell(i));
            }
        }

        private boolean spans(int from, int n) {
            return from >= 0 && n >= 0 && from <= size && n <= size - from;
        }

        private boolean takes(Row from, int i, int j, int n) {
            if (!from.spans(i, n) || !spans(j, n)) {
                return false;
            }
            System.arraycopy(from.cells, i, cells, j, n);
            return true;
        }

        private long sum() {
            long sum = 0;
            for (int i = 0; i < size; i++) {
                sum += cell(i);
            }
            return sum;
        }
    }

    /** What a TEXT told of a TRAIN; no DEED changes it. */
    private static final class Consist {
        private final Row rails = new Row(RAILS_MOST);
        private final Row kinds = new Row(WAGONS_MOST);
        private final Row tons = new Row(WAGONS_MOST);
        private final Row couplings = new Row(WAGONS_MOST);
        private final Row spares = new Row(WAGONS_MOST);
        private final Row braked = new Row(WAGONS_MOST + 1);
        private final Row unbraked = new Row(WAGONS_MOST + 1);
        private int weight;
        private int steam;
        private int sand;
        private int hill;

        private Consist() {
            clear();
        }

        private void clear() {
            rails.renew(0, 0);
            kinds.renew(0, 0);
            tons.renew(0, 0);
            couplings.renew(0, 0);
            spares.renew(0, 0);
            braked.renew(1, 0);
            unbraked.renew(1, 0);
        }

        // Loads, and what a jerk may be, are reckoned here, once, since searches ask for them at every step.
        private void addWagon(int kind, int itsTons, int coupling) {
            int i = kinds.size;
            kinds.add(kind);
            tons.add(itsTons);
            couplings.add(coupling);
            spares.add(holds(i) - slackness(i));
            braked.add(braked.cell(i) + weighs(i, true));
            unbraked.add(unbraked.cell(i) + weighs(i, false));
        }

        private int railAt(int minute) {
            return rails.size > 0 ? rails.cell(Math.floorMod(minute, rails.size)) : DRY;
        }

        private int weighs(int i, boolean brakeOn) {
            int own = tons.cell(i);
            switch (kinds.cell(i)) {
                case HEAVY:
                case RUSTY:
                    return 2 * own + hill;
                case PUSHED:
                    return Math.max(0, own - 2) + hill;
                case BRAKED:
                    return own + (brakeOn ? 3 : 0) + hill;
                default:
                    return own + hill;
            }
        }

        private int holds(int i) {
            int coupling = couplings.cell(i);
            return isOf(i, RUSTY) ? coupling / 2 : coupling;
        }

        private int slackness(int i) {
            return isOf(i, SLACK) ? 2 : 0;
        }

        private boolean isOf(int i, int kind) {
            int its = kinds.cell(i);
            return its == kind || kind == HEAVY && its == RUSTY || kind == SLACK && its == BRAKED;
        }

        private int manyOf(int kind, int first) {
            int many = 0;
            for (int i = 0; i < first && i < kinds.size; i++) {
                many += isOf(i, kind) ? 1 : 0;
            }
            return many;
        }
    }

    /** Reads the small language, item by item; it stops at the first place at which it can't go on. */
    private static final class Reader {
        private static final int END = 1000;
        private static final int NO_FIGURE = -1;
        private static final int E = 101;
        private static final int I = 105;
        private static final int FIGURE_NOUGHT = 48;
        private static final int[] RAIL_LETTERS = {100, 119, 108};
        private static final int[] KIND_LETTERS = {119, 104, 115, 112, 114, 98};
        private int place;

        /** The FAULT of a text, or NONE; what stands ahead of the FAULT comes to the consist. */
        private int faultOf(Row text, Consist into) {
            place = 0;
            into.clear();
            skipBlanks(text);
            if (!readsEngine(text, into)) {
                return place;
            }
            skipBlanks(text);
            if (!readsRails(text, into)) {
                return place;
            }
            skipBlanks(text);
            for (int i = 0; i < WAGONS_MOST && place < text.size; i++) {
                if (!readsWagon(text, into)) {
                    return place;
                }
                skipBlanks(text);
            }
            return place < text.size ? place : NONE;
        }

        private boolean readsEngine(Row text, Consist into) {
            if (!readsLetter(text, E)) {
                return false;
            }
            into.weight = readFigure(text, 1, 9);
            into.steam = into.weight == NO_FIGURE ? NO_FIGURE : readFigure(text, 0, 9);
            into.sand = into.steam == NO_FIGURE ? NO_FIGURE : readFigure(text, 0, 9);
            into.hill = into.sand == NO_FIGURE ? NO_FIGURE : readFigure(text, 0, 3);
            return into.hill != NO_FIGURE;
        }

        // A seventh d or l is left to the wagons, of which it is none: so the FAULT is its place.
        private boolean readsRails(Row text, Consist into) {
            if (!readsLetter(text, I)) {
                return false;
            }
            for (int i = 0; i < RAILS_MOST; i++) {
                int rail = indexOf(RAIL_LETTERS, here(text));
                if (rail == NONE) {
                    break;
                }
                into.rails.add(rail);
                place++;
            }
            return into.rails.size > 0;
        }

        private boolean readsWagon(Row text, Consist into) {
            int kind = indexOf(KIND_LETTERS, here(text));
            if (kind == NONE) {
                return false;
            }
            place++;
            int tons = readFigure(text, 1, 9);
            int coupling = tons == NO_FIGURE ? NO_FIGURE : readFigure(text, 1, 9);
            if (coupling == NO_FIGURE) {
                return false;
            }
            into.addWagon(kind, tons, coupling);
            return true;
        }

        private void skipBlanks(Row text) {
            for (int i = 0; i < TEXT_MOST && here(text) == BLANK; i++) {
                place++;
            }
        }

        private boolean readsLetter(Row text, int letter) {
            if (here(text) != letter) {
                return false;
            }
            place++;
            return true;
        }

        private int readFigure(Row text, int least, int most) {
            int figure = here(text) - FIGURE_NOUGHT;
            if (figure < least || figure > most) {
                return NO_FIGURE;
            }
            place++;
            return figure;
        }

        private int here(Row text) {
            return text.has(place) ? text.cell(place) : END;
        }

        private static int indexOf(int[] letters, int letter) {
            for (int i = 0; i < letters.length; i++) {
                if (letters[i] == letter) {
                    return i;
                }
            }
            return NONE;
        }
    }

    /** A TRAIN as it stands in one MINUTE. */
    private static final class Train {
        private final Consist consist;
        private final Train next;
        private int steam;
        private int sand;
        private int hollow;
        private int taken;
        private int wagons;
        private int gone;
        private int minute;
        private boolean sanded;
        private boolean brakeOn;
        private boolean brakeLost;

        /** The next one is what searches make of it by one THING more; the last one of a chain has none. */
        private Train(Consist told, Train more) {
            consist = told;
            next = more;
        }

        private void begins() {
            steam = consist.steam;
            sand = consist.sand;
            hollow = 0;
            taken = 0;
            wagons = consist.kinds.size;
            gone = 0;
            minute = 0;
            sanded = false;
            brakeOn = true;
            brakeLost = false;
        }

        private void becomes(Train other) {
            steam = other.steam;
            sand = other.sand;
            hollow = other.hollow;
            taken = other.taken;
            wagons = other.wagons;
            gone = other.gone;
            minute = other.minute;
            sanded = other.sanded;
            brakeOn = other.brakeOn;
            brakeLost = other.brakeLost;
        }

        private int rail() {
            return consist.railAt(minute);
        }

        private int gripOn(int rail, boolean withSand) {
            int bare = Math.max(0, consist.weight * gripFactor(rail) - hollow);
            return withSand ? bare + 3 : bare;
        }

        private int loadOf(int n) {
            return brakeOn ? consist.braked.cell(n) : consist.unbraked.cell(n);
        }

        /** By how much a jerk is more than the coupling of a wagon HOLDS, if it is the next one to be TAKEN UP. */
        private int strainOf(int i, int given) {
            return 2 * given - loadOf(i + 1) - consist.spares.cell(i);
        }

        private boolean canBe(int thing) {
            if (thing <= STEAM_MOST) {
                return thing <= steam;
            }
            if (thing == STREW) {
                return sand > 0;
            }
            return thing != BRAKE_ON || !brakeLost;
        }

        /** What comes of STEAM given on a rail, as go() tells; nothing is changed. */
        private int comesOf(int given, int rail) {
            int pull = 2 * given;
            if (pull > gripOn(rail, sanded)) {
                return SLIPPED;
            }
            if (taken == wagons) {
                if (!brakeOn && pull >= loadOf(wagons)) {
                    return WENT;
                }
            } else if (pull >= loadOf(taken + 1) && (taken + 1 < wagons || !brakeOn)) {
                return strainOf(taken, given) > 0 ? TORE : TAKEN_UP;
            }
            return !brakeOn && pull < loadOf(taken) ? ROLLED : IDLE;
        }

        /** Whether STEAM does just what one less of it does: then searches need not look again. */
        private boolean doesAsOneLess(int thing) {
            return thing > 1 && thing <= STEAM_MOST && comesOf(thing, rail()) == comesOf(thing - 1, rail());
        }

        private int does(int thing, int rail) {
            int came = thing <= STEAM_MOST ? comesOf(thing, rail) : OTHER;
            minute++;
            if (came == OTHER) {
                doesOther(thing);
            } else {
                givesSteam(thing, came);
            }
            return came;
        }

        private void doesOther(int thing) {
            switch (thing) {
                case STREW:
                    sand--;
                    sanded = true;
                    break;
                case BLOW:
                    steam = Math.min(STEAM_MOST, steam + 2);
                    break;
                case BACK:
                    taken = 0;
                    break;
                case BRAKE_OFF:
                    brakeOn = false;
                    break;
                default:
                    brakeOn = true;
                    break;
            }
        }

        private void givesSteam(int given, int came) {
            sanded = false;
            steam = Math.max(0, steam - (came == SLIPPED ? 2 : given > 0 ? 1 : 0));
            switch (came) {
                case SLIPPED:
                    hollow = Math.min(9, hollow + 1);
                    break;
                case TAKEN_UP:
                    taken++;
                    break;
                case TORE:
                    wagons = taken;
                    brakeOn = false;
                    brakeLost = true;
                    break;
                case WENT:
                    gone++;
                    break;
                case ROLLED:
                    taken = 0;
                    break;
                default:
                    break;
            }
        }
    }

    /** Searches among PLANS, from a train with GONE 0 on, along its chain of trains. */
    private static final class Plans {
        /** Whether a plan of most THINGS at most STARTS: the first by numbers comes to the plan. */
        private static boolean startsWithin(Train here, int depth, int most, Row plan) {
            Train next = here.next;
            if (depth >= most || next == null) {
                return false;
            }
            // As the last THING only STEAM can START it.
            int things = depth + 1 < most ? THINGS : STEAM_MOST + 1;
            for (int thing = 0; thing < things; thing++) {
                if (here.canBe(thing) && !here.doesAsOneLess(thing)) {
                    next.becomes(here);
                    next.does(thing, here.rail());
                    plan.set(depth, thing);
                    if (next.gone > 0 || startsWithin(next, depth + 1, most, plan)) {
                        return true;
                    }
                }
            }
            return false;
        }

        /** How many plans of as many THINGS START; without those that tear, if none may. */
        private static int startingWays(Train here, int left, boolean mayTear) {
            Train next = here.next;
            if (left <= 0 || next == null) {
                return here.gone > 0 ? 1 : 0;
            }
            int ways = 0;
            int its = 0;
            for (int thing = 0; thing < THINGS; thing++) {
                if (here.canBe(thing)) {
                    if (!here.doesAsOneLess(thing)) {
                        next.becomes(here);
                        int came = next.does(thing, here.rail());
                        its = came == TORE && !mayTear ? 0 : startingWays(next, left - 1, mayTear);
                    }
                    ways += its;
                }
            }
            return ways;
        }

        /** In how many of the twelfths to the power of the THINGS left it STARTS. */
        private static long startingChances(Train here, Row plan, int depth, Row parts) {
            Train next = here.next;
            if (depth >= plan.size || depth >= ODDS_MOST || next == null) {
                return here.gone > 0 ? 1 : 0;
            }
            int thing = plan.cell(depth);
            if (!here.canBe(thing)) {
                return TWELVE * startingChances(here, plan, depth + 1, parts);
            }
            if (thing > STEAM_MOST) {
                next.becomes(here);
                next.does(thing, DRY);
                return TWELVE * startingChances(next, plan, depth + 1, parts);
            }
            long chances = 0;
            for (int rail = DRY; rail <= LEAVES; rail++) {
                next.becomes(here);
                next.does(thing, rail);
                chances += parts.cell(rail) * startingChances(next, plan, depth + 1, parts);
            }
            return chances;
        }
    }
}
