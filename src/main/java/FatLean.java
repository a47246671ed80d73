import java.util.Arrays;

/**
 * Seven fat, seven lean: a dream read in several ways, lands, a granary, stewards and books.
 * The words in the comments (LAND, READING, STORE, CAN BE ..) are those of the document.
 */
public final class FatLean {
    public static final int BAD = -1, STATE = -2, FULL = -3, NONE = -4;

    private static final int MOST_LANDS = 4;
    private static final int MOST_READINGS = 4;
    private static final int MOST_YEARS = 8;
    private static final int MOST_GRAIN = 40;
    private static final int MOST_HUNGER = 20;
    private static final int MOST_FIGURE = 9;
    private static final int MOST_LEFT = 99;
    private static final int MOST_PLANNED = 5;
    private static final int MOST_TAPE = 160;
    private static final int MOST_BYTE = 127;
    private static final int MOST_SEEN = 6;
    private static final int MOST_CELLS = 40;
    private static final int MOST_READ = 20;
    private static final int IMAGES = 2;
    private static final int SHEETS = 4;
    private static final int TENTHS = 10;

    private static final int ALL = 0, PART = 1, LEVEL = 2, NOTHING = 3, NEEDED = 4;
    private static final int LAST_KIND = NEEDED;

    private static final int BYTES = 0, SHORTS = 1, INTS = 2;
    private static final int NULL_FAULT = 1, INDEX_FAULT = 2, CAST_FAULT = 3, SIZE_FAULT = 4;

    private final Scribe scribe = new Scribe();
    private final Court court = new Court();
    /** What may yet become the court, or is only tried: made once, so that no call makes objects. */
    private final Court trial = new Court();
    private final Counsel counsel = new Counsel();
    private final Books books = new Books();
    private final Court[] images = new Court[IMAGES];
    private final boolean[] imaged = new boolean[IMAGES];
    private final Sheet[] sheets = new Sheet[SHEETS];
    private int tornFault;

    public FatLean() {
        for (int k = 0; k < IMAGES; k++) {
            images[k] = new Court();
        }
        for (int k = 0; k < SHEETS; k++) {
            sheets[k] = new Sheet();
        }
    }

    // ---- the text, what there is

    public int feed(int c) {
        if (!within(c, 0, MOST_BYTE)) {
            return BAD;
        }
        return scribe.write(c) ? scribe.length : FULL;
    }

    public int end(int n) {
        if (!within(n, 0, scribe.length)) {
            return BAD;
        }
        int had = scribe.length;
        scribe.length = n;
        return had;
    }

    public int text() {
        scribe.begin(trial);
        int lines = 0;
        while (lines < MOST_TAPE && scribe.findsLine()) {
            scribe.takeLine();
            lines++;
        }
        scribe.length = 0;
        if (scribe.fault != 0) {
            return -10 - scribe.place;
        }
        court.copy(trial);
        books.known = 0;
        for (int k = 0; k < IMAGES; k++) {
            imaged[k] = false;
        }
        return lines;
    }

    public int fault() {
        return scribe.fault;
    }

    public int rule(int what) {
        switch (what) {
            case 0: return court.lands;
            case 1: return court.readings;
            case 2: return court.need;
            case 3: return court.hunger;
            case 4: return court.cap;
            case 5: return court.rot;
            case 6: return court.store;
            case 7: return court.fatPrice;
            case 8: return court.leanPrice;
            case 9: return court.kind;
            case 10: return court.v;
            case 11: return court.year;
            case 12: return court.money;
            case 13: return court.starved;
            default: return BAD;
        }
    }

    public int land(int i, int what) {
        if (!isLand(i) || !isFlag(what)) {
            return BAD;
        }
        return court.yields(what)[i];
    }

    public int reading(int r, int what) {
        if (!isReading(r)) {
            return BAD;
        }
        if (what == 0) {
            return court.odds[r];
        }
        if (what == 1) {
            return court.canBe(r) ? 1 : 0;
        }
        return within(what, 10, 10 + MOST_YEARS - 1) ? court.fatIn(r, what - 10) : BAD;
    }

    public int bears(int fat) {
        return isFlag(fat) ? court.harvest(fat) : BAD;
    }

    // ---- what is changed

    public int till(int i, int what, int v) {
        if (!isLand(i) || !isFlag(what) || !within(v, 0, MOST_FIGURE)) {
            return BAD;
        }
        int[] yields = court.yields(what);
        int was = yields[i];
        yields[i] = v;
        return was;
    }

    public int weigh(int r, int v) {
        if (!isReading(r) || !within(v, 1, MOST_FIGURE)) {
            return BAD;
        }
        int was = court.odds[r];
        court.odds[r] = v;
        return was;
    }

    public int need(int v) {
        if (!within(v, 0, MOST_GRAIN)) {
            return BAD;
        }
        int was = court.need;
        court.need = v;
        return was;
    }

    public int hunger(int v) {
        if (!within(v, 0, MOST_HUNGER)) {
            return BAD;
        }
        int was = court.hunger;
        court.hunger = v;
        return was;
    }

    public int cap(int v) {
        if (!within(v, 0, MOST_GRAIN)) {
            return BAD;
        }
        if (court.store > v) {
            return STATE;
        }
        int was = court.cap;
        court.cap = v;
        return was;
    }

    public int rot(int v) {
        if (!isRot(v)) {
            return BAD;
        }
        int was = court.rot;
        court.rot = v;
        return was;
    }

    public int fill(int v) {
        if (!within(v, 0, court.cap)) {
            return BAD;
        }
        int was = court.store;
        court.store = v;
        return was;
    }

    public int price(int fat, int v) {
        if (!isFlag(fat) || !within(v, 0, MOST_FIGURE)) {
            return BAD;
        }
        int was = court.priceIn(fat);
        if (fat == 1) {
            court.fatPrice = v;
        } else {
            court.leanPrice = v;
        }
        return was;
    }

    public int steward(int kind, int v) {
        if (!within(kind, ALL, LAST_KIND) || !within(v, 0, MOST_FIGURE)) {
            return BAD;
        }
        int was = court.kind;
        court.appoint(kind, v);
        return was;
    }

    // ---- years

    public int go(int fat, int kept) {
        return court.passTold(fat, kept);
    }

    public int year(int fat) {
        if (!isFlag(fat)) {
            return BAD;
        }
        return court.isOver() ? FULL : court.passByHim(fat);
    }

    public int keeps(int left) {
        return within(left, 0, MOST_LEFT) ? court.keptOf(left) : BAD;
    }

    public int ahead(int r, int n, int what) {
        if (!isReading(r) || !within(n, 0, MOST_YEARS) || !within(what, 0, 2)) {
            return BAD;
        }
        trial.copy(court);
        trial.follow(r, n);
        if (what == 0) {
            return trial.store;
        }
        return what == 1 ? trial.money - court.money : trial.starved - court.starved;
    }

    public int when(int r) {
        if (!isReading(r)) {
            return BAD;
        }
        trial.copy(court);
        return trial.firstHunger(r);
    }

    // ---- readings

    public int can() {
        return court.possible();
    }

    public long fat(int y, int what) {
        if (!within(y, 0, MOST_YEARS - 1) || !isFlag(what)) {
            return BAD;
        }
        int possible = court.possible();
        if (possible == 0) {
            return STATE;
        }
        int fatOnes = court.telling(possible, y, 1);
        return fraction(court.oddsOf(fatOnes), court.oddsOf(possible), what);
    }

    // ---- the best

    public long best(int n, int what) {
        if (!within(n, 0, MOST_PLANNED) || !isFlag(what)) {
            return BAD;
        }
        int possible = court.possible();
        if (possible == 0) {
            return STATE;
        }
        return fraction(counsel.greatest(court, n, possible), court.oddsOf(possible), what);
    }

    public int choice(int n, int fat) {
        if (!within(n, 1, MOST_PLANNED) || !isFlag(fat)) {
            return BAD;
        }
        int possible = court.possible();
        if (possible == 0 || court.isOver()) {
            return STATE;
        }
        int part = court.telling(possible, court.year, fat);
        return part == 0 ? NONE : counsel.leastChoice(court, n, part, fat);
    }

    public long knowing(int n, int what) {
        if (!within(n, 0, MOST_PLANNED) || !isFlag(what)) {
            return BAD;
        }
        int possible = court.possible();
        if (possible == 0) {
            return STATE;
        }
        int known = 0;
        for (int r = 0; r < court.readings; r++) {
            if (has(possible, r)) {
                known += counsel.greatest(court, n, 1 << r);
            }
        }
        int unknown = counsel.greatest(court, n, possible);
        return fraction(known - unknown, court.oddsOf(possible), what);
    }

    public long worth(int i, int n, int what) {
        if (!isLand(i) || !within(n, 0, MOST_PLANNED) || !isFlag(what)) {
            return BAD;
        }
        int possible = court.possible();
        if (possible == 0) {
            return STATE;
        }
        trial.copy(court);
        trial.yields(0)[i] = 0;
        trial.yields(1)[i] = 0;
        int with = counsel.greatest(court, n, possible);
        int without = counsel.greatest(trial, n, possible);
        return fraction(with - without, court.oddsOf(possible), what);
    }

    // ---- safe

    public int safe(int kind) {
        if (!within(kind, ALL, LAST_KIND)) {
            return BAD;
        }
        int bits = 0;
        for (int v = 0; v <= MOST_FIGURE; v++) {
            if (isSafe(kind, v, court.cap, court.store)) {
                bits |= 1 << v;
            }
        }
        return bits;
    }

    public int granary() {
        for (int cap = court.store; cap <= MOST_GRAIN; cap++) {
            if (isSafe(ALL, 0, cap, court.store)) {
                return cap;
            }
        }
        return NONE;
    }

    public int least() {
        for (int store = 0; store <= court.cap; store++) {
            if (isSafe(court.kind, court.v, court.cap, store)) {
                return store;
            }
        }
        return NONE;
    }

    // ---- books

    public int see(int y, int store) {
        if (!within(y, 1, MOST_YEARS) || !within(store, 0, MOST_GRAIN)) {
            return BAD;
        }
        return books.note(y, store) ? books.known : FULL;
    }

    public int forget(int n) {
        if (!within(n, 0, books.known)) {
            return BAD;
        }
        int were = books.known;
        books.known = n;
        return were;
    }

    public int stewards(int r, int what) {
        if (!isReading(r) || !isFlag(what)) {
            return BAD;
        }
        int found = 0;
        int first = NONE;
        for (int kind = ALL; kind <= LAST_KIND; kind++) {
            for (int v = 0; v <= MOST_FIGURE; v++) {
                if (isAsSeen(r, kind, v, 0)) {
                    first = found == 0 ? 10 * kind + v : first;
                    found++;
                }
            }
        }
        return what == 0 ? found : first;
    }

    public int hoards(int r) {
        if (!isReading(r)) {
            return BAD;
        }
        int bits = 0;
        for (int stolen = 0; stolen <= MOST_FIGURE; stolen++) {
            if (isAsSeen(r, court.kind, court.v, stolen)) {
                bits |= 1 << stolen;
            }
        }
        return bits;
    }

    public int fits() {
        int bits = 0;
        for (int r = 0; r < court.readings; r++) {
            if (isAsSeen(r, court.kind, court.v, 0)) {
                bits |= 1 << r;
            }
        }
        return bits;
    }

    // ---- by a seed

    public int drift(int seed, int n, int what) {
        if (!within(n, 0, TENTHS) || !within(what, 0, 2)) {
            return BAD;
        }
        trial.copy(court);
        int at = seed;
        for (int y = court.year; y < MOST_YEARS; y++) {
            at = at * 1103515245 + 12345;
            int drawn = (at >>> 16 & 0x7fff) % TENTHS;
            trial.passByHim(drawn < n ? 1 : 0);
        }
        if (what == 2) {
            return trial.store;
        }
        return what == 0 ? trial.starved - court.starved : trial.money - court.money;
    }

    // ---- images, sheets

    public int keep(int k) {
        if (!within(k, 0, IMAGES - 1)) {
            return BAD;
        }
        int was = imaged[k] ? 1 : 0;
        images[k].copy(court);
        imaged[k] = true;
        return was;
    }

    public int back(int k) {
        if (!within(k, 0, IMAGES - 1)) {
            return BAD;
        }
        if (!imaged[k]) {
            return STATE;
        }
        court.copy(images[k]);
        return court.year;
    }

    public int sheet(int k, int lane, int n) {
        if (!isSheet(k) || !isLane(lane) || n > MOST_CELLS) {
            return BAD;
        }
        if (n < 0) {
            return -10 - SIZE_FAULT;
        }
        sheets[k].renew(lane, n);
        return 1;
    }

    public int lay(int k, int i, int v) {
        if (!isSheet(k)) {
            return BAD;
        }
        int fault = sheets[k].faultAt(i);
        if (fault != 0) {
            return -10 - fault;
        }
        sheets[k].put(i, v);
        return 1;
    }

    public int read(int k, int lane, int f, int n) {
        if (!isSheet(k) || !isLane(lane) || !within(n, 0, MOST_READ)) {
            return BAD;
        }
        Sheet sheet = sheets[k];
        int fault = 0;
        int went = 0;
        trial.copy(court);
        for (int i = 0; i < n && fault == 0; i++) {
            // f stands inside the SHEET once a YEAR went, so this can not wrap around
            int at = f + 2 * i;
            fault = sheet.faultOfYear(lane, at);
            if (fault == 0) {
                if (trial.passTold(sheet.cells[at], sheet.cells[at + 1]) < 0) {
                    return -20 - i;
                }
                went++;
            }
        }
        court.copy(trial);
        tornFault = fault;
        return went;
    }

    public int torn() {
        return tornFault;
    }

    public int count(int what) {
        switch (what) {
            case 0: return books.known;
            case 1: return (imaged[0] ? 1 : 0) + (imaged[1] ? 1 : 0);
            case 2: return scribe.length;
            case 3: return sheets[0].isNothing() ? NONE : sheets[0].size;
            case 4: return Integer.bitCount(court.possible());
            case 5: return Integer.bitCount(court.past);
            default: return BAD;
        }
    }

    // ---- what several calls ask

    private static boolean within(int n, int least, int most) {
        return n >= least && n <= most;
    }

    private static boolean isFlag(int n) {
        return n == 0 || n == 1;
    }

    private static boolean has(int bits, int i) {
        return (bits >> i & 1) == 1;
    }

    private static boolean isRot(int v) {
        return v != 1 && within(v, 0, MOST_FIGURE);
    }

    private static boolean isSheet(int k) {
        return within(k, 0, SHEETS - 1);
    }

    private static boolean isLane(int lane) {
        return within(lane, BYTES, INTS);
    }

    private boolean isLand(int i) {
        return within(i, 0, court.lands - 1);
    }

    private boolean isReading(int r) {
        return within(r, 0, court.readings - 1);
    }

    private boolean isSafe(int kind, int v, int cap, int store) {
        for (int r = 0; r < court.readings; r++) {
            if (court.canBe(r)) {
                trial.copy(court);
                trial.appoint(kind, v);
                trial.cap = cap;
                trial.store = store;
                if (trial.firstHunger(r) != NONE) {
                    return false;
                }
            }
        }
        return true;
    }

    private boolean isAsSeen(int r, int kind, int v, int stolen) {
        trial.copy(court);
        trial.appoint(kind, v);
        for (int y = 1; y <= MOST_YEARS; y++) {
            if (!trial.isOver()) {
                trial.passByHim(trial.fatIn(r, trial.year));
                trial.store = Math.max(0, trial.store - stolen);
            }
            if (!books.agree(y, trial.store)) {
                return false;
            }
        }
        return true;
    }

    /** The numerator (what 0) or the denominator (1) in lowest terms. */
    private static long fraction(int over, int under, int what) {
        int shared = greatestDivisor(Math.abs(over), under);
        if (shared == 0) {
            return what;
        }
        return what == 0 ? over / shared : under / shared;
    }

    private static int greatestDivisor(int a, int b) {
        int greater = a;
        int less = b;
        // each two steps halve the greater one: 64 are enough for every int
        for (int step = 0; step < 64 && less != 0; step++) {
            int rest = greater % less;
            greater = less;
            less = rest;
        }
        return greater;
    }

    /** All that an IMAGE holds, and what a YEAR does to it. */
    private static final class Court {
        final int[] fatYields = new int[MOST_LANDS];
        final int[] leanYields = new int[MOST_LANDS];
        /** Of each READING: bit y, whether YEAR y is fat. */
        final int[] rows = new int[MOST_READINGS];
        final int[] odds = new int[MOST_READINGS];
        int lands;
        int readings;
        int need;
        int hunger;
        int cap;
        int rot;
        int store;
        int fatPrice;
        int leanPrice;
        int kind;
        int v;
        int year;
        /** Bit y, whether YEAR y was fat; bits from YEAR on are 0. */
        int past;
        int money;
        int starved;

        Court() {
            begin();
        }

        void begin() {
            lands = 0;
            readings = 0;
            need = 0;
            hunger = 0;
            cap = MOST_GRAIN;
            rot = 0;
            store = 0;
            fatPrice = 1;
            leanPrice = 1;
            appoint(ALL, 0);
            year = 0;
            past = 0;
            money = 0;
            starved = 0;
        }

        void copy(Court from) {
            System.arraycopy(from.fatYields, 0, fatYields, 0, MOST_LANDS);
            System.arraycopy(from.leanYields, 0, leanYields, 0, MOST_LANDS);
            System.arraycopy(from.rows, 0, rows, 0, MOST_READINGS);
            System.arraycopy(from.odds, 0, odds, 0, MOST_READINGS);
            lands = from.lands;
            readings = from.readings;
            need = from.need;
            hunger = from.hunger;
            cap = from.cap;
            rot = from.rot;
            store = from.store;
            fatPrice = from.fatPrice;
            leanPrice = from.leanPrice;
            appoint(from.kind, from.v);
            year = from.year;
            past = from.past;
            money = from.money;
            starved = from.starved;
        }

        void appoint(int newKind, int newV) {
            kind = newKind;
            v = newV;
        }

        void addLand(int fat, int lean) {
            if (lands < MOST_LANDS) {
                fatYields[lands] = fat;
                leanYields[lands] = lean;
                lands++;
            }
        }

        void addReading(int row, int weight) {
            if (readings < MOST_READINGS) {
                rows[readings] = row;
                odds[readings] = weight;
                readings++;
            }
        }

        int[] yields(int fat) {
            return fat == 1 ? fatYields : leanYields;
        }

        int priceIn(int fat) {
            return fat == 1 ? fatPrice : leanPrice;
        }

        int harvest(int fat) {
            int[] yields = fat == 1 ? fatYields : leanYields;
            int sum = 0;
            for (int i = 0; i < lands; i++) {
                sum += yields[i];
            }
            return sum;
        }

        boolean isOver() {
            return year >= MOST_YEARS;
        }

        int foodIn(int fat) {
            return store + harvest(fat);
        }

        int leftOf(int food) {
            return Math.max(0, food - need);
        }

        int hungryOf(int food) {
            return Math.max(0, need - food);
        }

        int unrotten(int kept) {
            return rot == 0 ? kept : kept - kept / rot;
        }

        int keptOf(int left) {
            return Math.min(cap, Math.min(left, wantedOf(left)));
        }

        private int wantedOf(int left) {
            switch (kind) {
                case PART: return v < 1 ? left : left / (v + 1);
                case LEVEL: return 4 * v;
                case NOTHING: return 0;
                case NEEDED: return need * v;
                default: return left;
            }
        }

        /** A YEAR of which all has been looked at: how many STARVED in it. */
        private int pass(int fat, int kept) {
            int food = foodIn(fat);
            int hungry = hungryOf(food);
            money += priceIn(fat) * (leftOf(food) - kept);
            starved += hungry;
            store = unrotten(kept);
            past |= fat << year;
            year++;
            return hungry;
        }

        int passTold(int fat, int kept) {
            if (!isFlag(fat) || !within(kept, 0, Math.min(cap, leftOf(foodIn(fat))))) {
                return BAD;
            }
            return isOver() ? FULL : pass(fat, kept);
        }

        /** A YEAR by the STEWARD, of which there is one still. */
        int passByHim(int fat) {
            return pass(fat, keptOf(leftOf(foodIn(fat))));
        }

        /** So many YEARS by a READING and the STEWARD, or as many as there are. */
        void follow(int r, int years) {
            for (int i = 0; i < years && !isOver(); i++) {
                passByHim(fatIn(r, year));
            }
        }

        /** In which YEAR from now on somebody STARVES first by a READING and the STEWARD. */
        int firstHunger(int r) {
            for (int y = year; y < MOST_YEARS; y++) {
                if (passByHim(fatIn(r, y)) > 0) {
                    return y;
                }
            }
            return NONE;
        }

        int fatIn(int r, int y) {
            return rows[r] >> y & 1;
        }

        boolean canBe(int r) {
            int gone = (1 << year) - 1;
            return (rows[r] & gone) == past;
        }

        /** READINGS that CAN BE (bits). */
        int possible() {
            int bits = 0;
            for (int r = 0; r < readings; r++) {
                if (canBe(r)) {
                    bits |= 1 << r;
                }
            }
            return bits;
        }

        /** Those of some READINGS (bits) that tell YEAR y as fat (1), lean (0). */
        int telling(int among, int y, int fat) {
            int bits = 0;
            for (int r = 0; r < readings; r++) {
                if (has(among, r) && fatIn(r, y) == fat) {
                    bits |= 1 << r;
                }
            }
            return bits;
        }

        int oddsOf(int among) {
            int sum = 0;
            for (int r = 0; r < readings; r++) {
                if (has(among, r)) {
                    sum += odds[r];
                }
            }
            return sum;
        }
    }

    /**
     * THE BEST: WORTH times ODDS, so that all sums are whole. YEARS are counted by their depth, from now on 0.
     */
    private static final class Counsel {
        /** By depth and STORE: the greatest sum over the READINGS looked at, of the YEARS from that depth on. */
        private final int[][] sums = new int[MOST_PLANNED + 1][MOST_GRAIN + 1];
        /** What is KEPT best, the least, if no more than so much can be KEPT. */
        private final int[] choices = new int[MOST_GRAIN + 1];
        private Court court;
        private int years;

        int greatest(Court asked, int n, int among) {
            plan(asked, n);
            sumFrom(this, 0, among);
            return sums[0][asked.store];
        }

        /** The READINGS given are those that tell this YEAR so. */
        int leastChoice(Court asked, int n, int part, int fat) {
            plan(asked, n);
            sumFrom(this, 1, part);
            choose(1, asked.oddsOf(part) * asked.priceIn(fat));
            return choices[Math.min(asked.cap, asked.leftOf(asked.foodIn(fat)))];
        }

        private void plan(Court asked, int n) {
            court = asked;
            years = Math.min(n, MOST_YEARS - asked.year);
        }

        /** Fills a row of the sums: a YEAR parts the READINGS, each part is planned for by itself. */
        private static void sumFrom(Counsel c, int depth, int among) {
            if (depth > MOST_PLANNED) {
                return;
            }
            Arrays.fill(c.sums[depth], 0);
            if (depth >= c.years) {
                return;
            }
            for (int fat = 0; fat <= 1; fat++) {
                int part = c.court.telling(among, c.court.year + depth, fat);
                if (part != 0) {
                    sumFrom(c, depth + 1, part);
                    c.addYear(depth, part, fat);
                }
            }
        }

        private void addYear(int depth, int part, int fat) {
            int odds = court.oddsOf(part);
            int price = odds * court.priceIn(fat);
            int pain = odds * court.hunger;
            int borne = court.harvest(fat);
            choose(depth + 1, price);
            for (int s = 0; s <= court.cap; s++) {
                int left = court.leftOf(s + borne);
                int kept = choices[Math.min(court.cap, left)];
                int now = price * left - pain * court.hungryOf(s + borne);
                sums[depth][s] += now + gain(depth + 1, price, kept);
            }
        }

        private void choose(int depth, int price) {
            int best = 0;
            int most = gain(depth, price, 0);
            for (int kept = 0; kept <= court.cap; kept++) {
                int gained = gain(depth, price, kept);
                if (gained > most) {
                    best = kept;
                    most = gained;
                }
                choices[kept] = best;
            }
        }

        /** What it brings to keep so much, against selling all. */
        private int gain(int depth, int price, int kept) {
            return sums[depth][court.unrotten(kept)] - price * kept;
        }
    }

    /** What was SEEN. */
    private static final class Books {
        private final int[] years = new int[MOST_SEEN];
        private final int[] stores = new int[MOST_SEEN];
        int known;

        boolean note(int y, int store) {
            if (known >= MOST_SEEN) {
                return false;
            }
            years[known] = y;
            stores[known] = store;
            known++;
            return true;
        }

        boolean agree(int y, int store) {
            for (int i = 0; i < known; i++) {
                if (years[i] == y && stores[i] != store) {
                    return false;
                }
            }
            return true;
        }
    }

    /** A SHEET: one row of ints serves all lanes, since what is put is cut to its lane. */
    private static final class Sheet {
        final int[] cells = new int[MOST_CELLS];
        /** Below 0: nothing. */
        int size = -1;
        private int lane;

        boolean isNothing() {
            return size < 0;
        }

        void renew(int newLane, int newSize) {
            lane = newLane;
            size = newSize;
            Arrays.fill(cells, 0);
        }

        void put(int i, int v) {
            cells[i] = lane == BYTES ? (byte) v : lane == SHORTS ? (short) v : v;
        }

        int faultAt(int i) {
            if (isNothing()) {
                return NULL_FAULT;
            }
            return within(i, 0, size - 1) ? 0 : INDEX_FAULT;
        }

        /** A YEAR's two CELLS, of the row taken as of a lane: nothing can be taken as of every lane. */
        int faultOfYear(int wanted, int i) {
            if (!isNothing() && lane != wanted) {
                return CAST_FAULT;
            }
            int fault = faultAt(i);
            return fault != 0 ? fault : faultAt(i + 1);
        }
    }

    /** THE TAPE and who reads it. */
    private static final class Scribe {
        private static final int WORD = 0, NUMBER = 1, SEMICOLON = 2, TAPE_END = 3;
        private static final int NO_TOKEN = 1, MISPLACED = 2, OUT_OF_BOUNDS = 3, TWICE = 4, TOO_MANY = 5;
        private static final int PEOPLE = 0, GRANARY = 1, PRICE = 2, STEWARD = 3;
        private static final int MOST_FIGURES = 2;

        private final int[] tape = new int[MOST_TAPE];
        int length;
        int fault;
        int place;
        private Court told;
        /** Bits of the lines that may come once and did. */
        private int once;
        private int token;
        private int start;
        private int next;
        private int number;

        boolean write(int c) {
            if (length >= MOST_TAPE) {
                return false;
            }
            tape[length] = c;
            length++;
            return true;
        }

        /** THE TAPE is to be told into a draft, which is of no use if there is a FAULT. */
        void begin(Court draft) {
            told = draft;
            told.begin();
            fault = 0;
            place = 0;
            once = 0;
            next = 0;
        }

        /** Whether there is a line more, and no FAULT so far. */
        boolean findsLine() {
            take();
            return fault == 0 && token != TAPE_END;
        }

        private void fail(int which) {
            if (fault == 0) {
                fault = which;
                place = start;
            }
        }

        // ---- tokens

        /** Nothing is read behind a FAULT: the first one met counts. */
        private void take() {
            if (fault != 0) {
                return;
            }
            while (next < length && tape[next] == ' ') {
                next++;
            }
            start = next;
            if (next >= length) {
                token = TAPE_END;
            } else if (tape[next] == ';') {
                token = SEMICOLON;
                next++;
            } else if (isLetter(tape[next])) {
                takeWord();
            } else if (isFigure(tape[next])) {
                takeNumber();
            } else {
                fail(NO_TOKEN);
            }
        }

        private void takeWord() {
            token = WORD;
            while (next < length && isLetter(tape[next])) {
                next++;
            }
        }

        private void takeNumber() {
            token = NUMBER;
            number = 0;
            while (next < length && next - start <= MOST_FIGURES && isFigure(tape[next])) {
                number = number * 10 + tape[next] - '0';
                next++;
            }
            if (next - start > MOST_FIGURES) {
                fail(NO_TOKEN);
            }
        }

        private static boolean isLetter(int c) {
            return c >= 'a' && c <= 'z';
        }

        private static boolean isFigure(int c) {
            return c >= '0' && c <= '9';
        }

        private boolean isWord(String word) {
            if (token != WORD || next - start != word.length()) {
                return false;
            }
            for (int i = 0; i < word.length(); i++) {
                if (tape[start + i] != word.charAt(i)) {
                    return false;
                }
            }
            return true;
        }

        // ---- lines

        void takeLine() {
            if (isWord("land")) {
                takeLand();
            } else if (isWord("dream")) {
                takeDream();
            } else if (isWord("people")) {
                takePeople();
            } else if (isWord("granary")) {
                takeGranary();
            } else if (isWord("price")) {
                takePrice();
            } else if (isWord("steward")) {
                takeSteward();
            } else {
                fail(MISPLACED);
            }
            take();
            if (token != SEMICOLON) {
                fail(MISPLACED);
            }
        }

        private void takeLand() {
            if (told.lands >= MOST_LANDS) {
                fail(TOO_MANY);
            }
            int fat = takeWithin(0, MOST_FIGURE);
            int lean = takeWithin(0, MOST_FIGURE);
            if (fault == 0) {
                told.addLand(fat, lean);
            }
        }

        private void takeDream() {
            if (told.readings >= MOST_READINGS) {
                fail(TOO_MANY);
            }
            int row = takeRow();
            int odds = takeWithin(1, MOST_FIGURE);
            if (fault == 0) {
                told.addReading(row, odds);
            }
        }

        private void takePeople() {
            markOnce(PEOPLE);
            told.need = takeWithin(0, MOST_GRAIN);
            told.hunger = takeWithin(0, MOST_HUNGER);
        }

        private void takeGranary() {
            markOnce(GRANARY);
            told.cap = takeWithin(0, MOST_GRAIN);
            told.rot = takeWithin(0, MOST_FIGURE);
            if (!isRot(told.rot)) {
                fail(OUT_OF_BOUNDS);
            }
            told.store = takeWithin(0, told.cap);
        }

        private void takePrice() {
            markOnce(PRICE);
            told.fatPrice = takeWithin(0, MOST_FIGURE);
            told.leanPrice = takeWithin(0, MOST_FIGURE);
        }

        private void takeSteward() {
            markOnce(STEWARD);
            int kind = takeKind();
            int v = takeWithin(0, MOST_FIGURE);
            told.appoint(kind, v);
        }

        private void markOnce(int line) {
            if (has(once, line)) {
                fail(TWICE);
            }
            once |= 1 << line;
        }

        // ---- what stands in a line: 0, once there was a FAULT

        private int takeWithin(int least, int most) {
            take();
            if (fault != 0) {
                return 0;
            }
            if (token != NUMBER) {
                fail(MISPLACED);
                return 0;
            }
            if (!within(number, least, most)) {
                fail(OUT_OF_BOUNDS);
                return 0;
            }
            return number;
        }

        private int takeRow() {
            take();
            if (fault != 0) {
                return 0;
            }
            if (token != WORD) {
                fail(MISPLACED);
                return 0;
            }
            if (next - start > MOST_YEARS) {
                fail(OUT_OF_BOUNDS);
                return 0;
            }
            int row = 0;
            for (int y = 0; y < next - start; y++) {
                int letter = tape[start + y];
                if (letter == 'f') {
                    row |= 1 << y;
                } else if (letter != 'l') {
                    fail(OUT_OF_BOUNDS);
                    return 0;
                }
            }
            return row;
        }

        private int takeKind() {
            take();
            if (isWord("all")) {
                return ALL;
            }
            if (isWord("part")) {
                return PART;
            }
            if (isWord("level")) {
                return LEVEL;
            }
            if (isWord("none")) {
                return NOTHING;
            }
            if (isWord("need")) {
                return NEEDED;
            }
            fail(MISPLACED);
            return ALL;
        }
    }
}
