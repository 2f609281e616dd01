import java.util.Arrays;

/**
 * A street of houses down which a brook is led on Tuesdays. What each method promises
 * stands in the document, under the method's name.
 */
public final class RiverTuesdays {
    public static final int BAD = -1, FULL = -2, FINDING = -3, STATE = -4, SPENT = -6, NONE = -9;

    private static final int NOTHING = 1, BEYOND = 2, UNLIKE = 3, NOUGHT = 4, SIZE = 5;
    private static final int ROWS = 6, TEXTS = 4, KEEPS = 3, PLACES = 60, MISSING = -1;
    private static final int MILL = 1, SHOP = 2, DAM = 3, WHEEL = 4, LOCK = 5;
    private static final int MOST_HOUSES = 8, MOST_FLOW = 9, MOST_SILL = 20, MOST_HOURS = 60;
    private static final int DAY = 8, PLANS = 256, CUT_OFF = 2, MOST_MARK = 999, MOST_RAISE = 4;
    private static final int MOST_JOBS = 6, ORDERS = 720, MOST_TAKES = 24, MOST_DUE = 99;
    private static final int MOST_DAYS = 9999, MOST_ROUND = 30, MOST_SHIFT = 9, MOST_YEARS = 40;
    private static final long LOT_FACTOR = 48271L, LOT_MODULUS = 2147483647L;
    private static final int ABOVE_BYTES = 1000, DAM_LETS_ON = 2, ANY = 1000000000;
    private static final long NO_RANK = 1000000000000000L;
    private static final char BLANK = ' ';

    private final Row[] rows = new Row[ROWS];
    private final Text[] texts = new Text[TEXTS];
    private final Street present = new Street();
    private final Street[] kept = new Street[KEEPS];
    private final boolean[] isKept = new boolean[KEEPS];
    private final Bed trialBed = new Bed();
    private final Waters trialWaters = new Waters();
    private final Tuesday today = new Tuesday();
    private final Fits fits = new Fits();
    private final Jobs jobs = new Jobs();
    private final int[] perHouse = new int[MOST_HOUSES];
    private final int[] timesFound = new int[SIZE + 1];
    private int latestFound;
    private int told;

    public RiverTuesdays() {
        for (int r = 0; r < ROWS; r++) {
            rows[r] = new Row();
        }
        for (int t = 0; t < TEXTS; t++) {
            texts[t] = new Text();
        }
        for (int k = 0; k < KEEPS; k++) {
            kept[k] = new Street();
        }
    }

    // ---- 1 rows, texts, streets

    public int row(int r, int n) {
        if (!isRow(r) || n > PLACES) {
            return BAD;
        }
        if (n < 0) {
            return find(SIZE);
        }
        rows[r].begin(n);
        return n;
    }

    public int lay(int r, int i, int v) {
        int refused = refusedPlace(r, i);
        if (refused != 0) {
            return refused;
        }
        int was = rows[r].places[i];
        rows[r].places[i] = v;
        return tell(was, 1);
    }

    public int at(int r, int i) {
        int refused = refusedPlace(r, i);
        return refused != 0 ? refused : tell(rows[r].places[i], 1);
    }

    public int tear(int r) {
        int refused = refusedRow(r);
        if (refused != 0) {
            return refused;
        }
        rows[r].size = MISSING;
        return 1;
    }

    public int copy(int r, int i, int to, int j, int n) {
        if (!isRow(r) || !isRow(to)) {
            return BAD;
        }
        if (n < 0) {
            return find(SIZE);
        }
        if (!rows[r].isThere() || !rows[to].isThere()) {
            return find(NOTHING);
        }
        if (!rows[r].hasRun(i, n) || !rows[to].hasRun(j, n)) {
            return find(BEYOND);
        }
        System.arraycopy(rows[r].places, i, rows[to].places, j, n);
        return 1;
    }

    public int mean(int r) {
        int refused = refusedRow(r);
        if (refused != 0) {
            return refused;
        }
        int size = rows[r].size;
        if (size <= 0) {
            return find(NOUGHT);
        }
        return tell((int) (rows[r].sum() / size), 1);
    }

    public int text(int t, int n) {
        if (!isText(t) || n > PLACES) {
            return BAD;
        }
        if (n < 0) {
            return find(SIZE);
        }
        texts[t].begin(n);
        return n;
    }

    public int put(int t, int i, int v) {
        int refused = refusedText(t);
        if (refused != 0) {
            return refused;
        }
        if (i < 0 || i >= texts[t].size) {
            return find(BEYOND);
        }
        int was = texts[t].signs[i];
        texts[t].signs[i] = (byte) v;
        return was + ABOVE_BYTES;
    }

    public int fault(int t) {
        int refused = refusedText(t);
        return refused != 0 ? refused : trialBed.readStreet(texts[t]);
    }

    public int street(int t) {
        int refused = refusedText(t);
        if (refused != 0) {
            return refused;
        }
        if (trialBed.readStreet(texts[t]) != NONE) {
            return STATE;
        }
        present.begin(trialBed);
        for (int k = 0; k < KEEPS; k++) {
            isKept[k] = false;
        }
        return present.bed.houses;
    }

    public int house(int i, int what) {
        if (!present.bed.hasHouse(i) || !isWithin(what, 0, 6)) {
            return BAD;
        }
        return tell(present.ofHouse(i, what), 1);
    }

    public int mark(int i, int kind) {
        if (!present.bed.hasHouse(i) || !isWithin(kind, MILL, LOCK)) {
            return BAD;
        }
        if (!present.bed.isOfKind(i, kind)) {
            return find(UNLIKE);
        }
        switch (kind) {
            case SHOP:
                return present.bed.cellar[i] - present.now.below[i];
            case DAM:
                return present.now.drop(present.bed, i);
            case LOCK:
                return present.bed.shutBit[i];
            case WHEEL:
                return present.bed.grinds(i, wouldRunOn(i));
            default:
                return wouldRunOn(i);
        }
    }

    public int sill(int i, int v) {
        if (!present.bed.hasHouse(i) || !isWithin(v, 0, MOST_SILL)) {
            return BAD;
        }
        int was = present.bed.height[i];
        present.bed.height[i] = v;
        return was;
    }

    public int flow(int v) {
        if (!isWithin(v, 1, MOST_FLOW)) {
            return BAD;
        }
        if (!hasHouses()) {
            return STATE;
        }
        int was = present.bed.inflow;
        present.bed.inflow = v;
        return was;
    }

    public int shut(int i, int is) {
        if (!present.bed.hasHouse(i) || !isWithin(is, 0, 1)) {
            return BAD;
        }
        if (!present.bed.isOfKind(i, LOCK)) {
            return find(UNLIKE);
        }
        int was = present.bed.shutBit[i];
        present.bed.shutBit[i] = is;
        return was;
    }

    public int pump(int i) {
        return present.bed.hasHouse(i) ? present.now.pumpOut(i) : BAD;
    }

    // ---- 2 hours

    public int hour(int open) {
        if (!isWithin(open, 0, 1)) {
            return BAD;
        }
        if (!hasHouses()) {
            return STATE;
        }
        if (!present.hasRoomFor(1)) {
            return FULL;
        }
        int outBefore = present.now.out;
        present.pass(open);
        return tell(present.now.out - outBefore, present.now.allAhead());
    }

    public int undo(int n) {
        return isWithin(n, 0, present.hours) ? present.goBack(n) : BAD;
    }

    public int water() {
        return tell(present.now.out, present.now.in);
    }

    public int keep(int k) {
        if (!isWithin(k, 0, KEEPS - 1)) {
            return BAD;
        }
        if (!hasHouses()) {
            return STATE;
        }
        kept[k].takeFrom(present);
        isKept[k] = true;
        return present.hours;
    }

    public int on(int k) {
        if (!isWithin(k, 0, KEEPS - 1)) {
            return BAD;
        }
        if (!isKept[k]) {
            return find(NOTHING);
        }
        present.takeFrom(kept[k]);
        return present.hours;
    }

    // ---- 3 tuesdays by plans (aside)

    public int harm(int plan) {
        int refused = refusedPlan(plan);
        if (refused != 0) {
            return refused;
        }
        leadAside(plan);
        return tell(today.grindings(), today.harmDone());
    }

    public int wet(int plan) {
        int refused = refusedPlan(plan);
        if (refused != 0) {
            return refused;
        }
        leadAside(plan);
        int bits = today.wetBits[DAY];
        return tell(Integer.bitCount(bits), bits);
    }

    public int when(int plan, int i) {
        if (!isPlan(plan) || !present.bed.hasHouse(i)) {
            return BAD;
        }
        leadAside(plan);
        for (int h = 0; h < DAY; h++) {
            if (hasBit(today.wetBits[h + 1], i)) {
                return h;
            }
        }
        return NONE;
    }

    public int cut(int plan, int hour) {
        if (!isHourOfDay(hour)) {
            return BAD;
        }
        int refused = refusedPlan(plan);
        if (refused != 0) {
            return refused;
        }
        leadAside(plan);
        int bits = today.cutOffBits(hour);
        return tell(Integer.bitCount(bits), bits);
    }

    public int boat(int plan, int hour, int i, int j) {
        if (!isPlan(plan) || !isHourOfDay(hour)
                || !present.bed.hasHouse(i) || !present.bed.hasHouse(j)) {
            return BAD;
        }
        leadAside(plan);
        int bits = today.cutOffBits(hour);
        for (int between = Math.min(i, j); between <= Math.max(i, j); between++) {
            if (!hasBit(bits, between)) {
                return 0;
            }
        }
        return 1;
    }

    public int trade(int plan) {
        int refused = refusedPlan(plan);
        if (refused != 0) {
            return refused;
        }
        leadAside(plan);
        int best = 0;
        int most = boatPairs(today.cutOffBits(0));
        for (int h = 1; h < DAY; h++) {
            int pairs = boatPairs(today.cutOffBits(h));
            if (pairs > most) {
                best = h;
                most = pairs;
            }
        }
        return tell(most, best);
    }

    public int marks(int plan, int r) {
        if (!isRow(r)) {
            return BAD;
        }
        int refused = refusedPlan(plan);
        if (refused != 0) {
            return refused;
        }
        leadAside(plan);
        rows[r].takeFrom(today.markAt[DAY], present.bed.houses);
        return rows[r].greatest();
    }

    public int stands(int plan) {
        int refused = refusedPlan(plan);
        if (refused != 0) {
            return refused;
        }
        leadAside(plan);
        return tell(today.runOut(), today.behind[DAY].allAhead());
    }

    public int tuesday(int plan) {
        int refused = refusedPlan(plan);
        if (refused != 0) {
            return refused;
        }
        if (!present.hasRoomFor(DAY)) {
            return FULL;
        }
        int harmDone = 0;
        for (int h = 0; h < DAY; h++) {
            present.pass(plan >> h & 1);
            harmDone += present.now.harmOfHour(present.bed);
        }
        return harmDone;
    }

    // ---- 4 which plan

    public int most(int h) {
        if (!isWithin(h, 0, DAY)) {
            return BAD;
        }
        if (!hasHouses()) {
            return STATE;
        }
        long best = NO_RANK;
        today.begin(present.now);
        for (int n = 0; n < PLANS; n++) {
            int plan = mirrored(n);
            if (Integer.bitCount(plan) == h) {
                today.lead(present.bed, plan);
                best = Math.min(best, rank(-today.grindings(), today.harmDone(), plan));
            }
        }
        int plan = planOfRank(best);
        today.lead(present.bed, plan);
        return tell(today.grindings(), plan);
    }

    public int least(int v) {
        if (!isWithin(v, 0, 99)) {
            return BAD;
        }
        if (!hasHouses()) {
            return STATE;
        }
        long best = NO_RANK;
        today.begin(present.now);
        for (int n = 0; n < PLANS; n++) {
            int plan = mirrored(n);
            today.lead(present.bed, plan);
            if (today.grindings() >= v) {
                best = Math.min(best, rank(today.harmDone(), Integer.bitCount(plan), plan));
            }
        }
        if (best == NO_RANK) {
            return NONE;
        }
        int plan = planOfRank(best);
        today.lead(present.bed, plan);
        return tell(today.harmDone(), plan);
    }

    public int dry() {
        if (!hasHouses()) {
            return STATE;
        }
        long best = NO_RANK;
        today.begin(present.now);
        for (int n = 0; n < PLANS; n++) {
            int plan = mirrored(n);
            today.lead(present.bed, plan);
            if (today.harmDone() == 0) {
                best = Math.min(best, rank(-Integer.bitCount(plan), 0, plan));
            }
        }
        if (best == NO_RANK) {
            return NONE;
        }
        int plan = planOfRank(best);
        return tell(plan, Integer.bitCount(plan));
    }

    // ---- 5 how was it led

    public int led(int r) {
        int refused = refusedMarks(r);
        if (refused != 0) {
            return refused;
        }
        gatherFits(rows[r]);
        return tell(fits.leastPlan(), fits.size);
    }

    public int sure(int r) {
        int refused = refusedMarks(r);
        if (refused != 0) {
            return refused;
        }
        gatherFits(rows[r]);
        if (fits.size == 0) {
            return find(NOUGHT);
        }
        return tell(fits.shutInAll(), fits.openInAll());
    }

    public int look(int r) {
        int refused = refusedMarks(r);
        if (refused != 0) {
            return refused;
        }
        gatherFits(rows[r]);
        if (fits.size == 0) {
            return find(NOUGHT);
        }
        int best = NONE;
        int fewest = PLANS + 1;
        for (int i = 0; i < present.bed.houses; i++) {
            int left = rows[r].places[i] == NONE ? fits.mostAlike(i) : PLANS + 1;
            if (left < fewest) {
                best = i;
                fewest = left;
            }
        }
        return best == NONE ? NONE : tell(fewest, best);
    }

    // ---- 6 sills, work

    public int raise(int plan, int r) {
        if (!isRow(r)) {
            return BAD;
        }
        int refused = refusedPlan(plan);
        if (refused != 0) {
            return refused;
        }
        int together = findRaises(plan);
        if (together > MOST_RAISE) {
            return NONE;
        }
        rows[r].takeFrom(perHouse, present.bed.houses);
        return together;
    }

    public int whose(int plan) {
        int refused = refusedPlan(plan);
        if (refused != 0) {
            return refused;
        }
        int best = 0;
        int leastHarm = harmWithRaised(0, plan);
        for (int i = 1; i < present.bed.houses; i++) {
            int harmDone = harmWithRaised(i, plan);
            if (harmDone < leastHarm) {
                best = i;
                leastHarm = harmDone;
            }
        }
        return tell(leastHarm, best);
    }

    public int work(int takes, int due, int r) {
        if (!isRow(r)) {
            return BAD;
        }
        int refused = refusedJobs(takes, due);
        if (refused != 0) {
            return refused;
        }
        jobs.takeFrom(rows[takes], rows[due]);
        int late = jobs.findBestOrder();
        rows[r].takeFrom(jobs.bestOrder, jobs.size);
        return late;
    }

    public int done(int takes, int due) {
        int refused = refusedJobs(takes, due);
        if (refused != 0) {
            return refused;
        }
        jobs.takeFrom(rows[takes], rows[due]);
        int which = jobs.findMostInTime();
        return tell(which, Integer.bitCount(which));
    }

    // ---- 7 calendars, lots

    public int calendar(int d, int p, int r, int s) {
        if (!isWithin(d, 0, MOST_DAYS) || !isWithin(p, 1, MOST_ROUND)
                || !isRow(r) || !isWithin(s, -MOST_SHIFT, MOST_SHIFT)) {
            return BAD;
        }
        if (!rows[r].isThere()) {
            return find(NOTHING);
        }
        if (!rows[r].isAllWithin(0, p - 1)) {
            return find(UNLIKE);
        }
        int shift = Math.floorMod(d / p * s, p);
        for (int i = 0; i < rows[r].size; i++) {
            if ((rows[r].places[i] + shift) % p == d % p) {
                return 1;
            }
        }
        return 0;
    }

    public int years(int n, int seed) {
        if (!isWithin(n, 1, MOST_YEARS) || !isWithin(seed, 1, (int) LOT_MODULUS - 1)) {
            return BAD;
        }
        if (!hasHouses()) {
            return STATE;
        }
        Arrays.fill(perHouse, 0);
        trialWaters.begin();
        long lot = seed;
        int harmDone = 0;
        for (int year = 0; year < n; year++) {
            lot = lot * LOT_FACTOR % LOT_MODULUS;
            trialWaters.emptyCellars();
            today.begin(trialWaters);
            today.lead(present.bed, (int) (lot % PLANS));
            harmDone += today.harmDone();
            countBits(today.wetBits[DAY]);
            trialWaters.takeFrom(today.behind[DAY]);
        }
        return tell(mostOften(), harmDone);
    }

    // ---- 8 what is told

    public int asked() {
        return told;
    }

    public long upper() {
        return present.now.in == 0 ? 0 : present.now.standing() / standingDivisor();
    }

    public long lower() {
        return present.now.in == 0 ? 1 : present.now.in / standingDivisor();
    }

    public int count(int what) {
        switch (what) {
            case 0:
                return present.bed.houses;
            case 1:
                return present.hours;
            case 2:
                return present.bed.howManyOf(MILL);
            case 3:
                return present.bed.howManyOf(DAM);
            case 4:
                return present.bed.howManyShut();
            case 5:
                return keptStreets();
            case 6:
                return rowsThere();
            case 7:
                return textsThere();
            default:
                return BAD;
        }
    }

    public int finding() {
        return latestFound;
    }

    public int findings(int f) {
        return isWithin(f, NOTHING, SIZE) ? timesFound[f] : BAD;
    }

    public long digest() {
        long h = 17;
        for (int what = 0; what < 8; what++) {
            h = 31 * h + count(what);
        }
        h = present.foldedInto(h);
        for (int k = 0; k < KEEPS; k++) {
            h = 31 * h + (isKept[k] ? kept[k].hours : MISSING);
        }
        for (int r = 0; r < ROWS; r++) {
            h = rows[r].foldedInto(h);
        }
        for (int t = 0; t < TEXTS; t++) {
            h = texts[t].foldedInto(h);
        }
        return h;
    }

    // ---- refusals

    private int find(int what) {
        latestFound = what;
        timesFound[what]++;
        return FINDING;
    }

    private int tell(int what, int answer) {
        told = what;
        return answer;
    }

    private static boolean isWithin(int v, int least, int most) {
        return v >= least && v <= most;
    }

    private static boolean isRow(int r) {
        return isWithin(r, 0, ROWS - 1);
    }

    private static boolean isText(int t) {
        return isWithin(t, 0, TEXTS - 1);
    }

    private static boolean isPlan(int plan) {
        return isWithin(plan, 0, PLANS - 1);
    }

    private static boolean isHourOfDay(int h) {
        return isWithin(h, 0, DAY - 1);
    }

    private boolean hasHouses() {
        return present.bed.houses > 0;
    }

    // The refused...() answer 0 if nothing is to be refused.

    private int refusedRow(int r) {
        if (!isRow(r)) {
            return BAD;
        }
        return rows[r].isThere() ? 0 : find(NOTHING);
    }

    private int refusedPlace(int r, int i) {
        int refused = refusedRow(r);
        if (refused != 0) {
            return refused;
        }
        return i >= 0 && i < rows[r].size ? 0 : find(BEYOND);
    }

    private int refusedText(int t) {
        if (!isText(t)) {
            return BAD;
        }
        return texts[t].isThere() ? 0 : find(NOTHING);
    }

    private int refusedPlan(int plan) {
        if (!isPlan(plan)) {
            return BAD;
        }
        return hasHouses() ? 0 : STATE;
    }

    private int refusedMarks(int r) {
        if (!isRow(r)) {
            return BAD;
        }
        if (!hasHouses()) {
            return STATE;
        }
        if (!rows[r].isThere()) {
            return find(NOTHING);
        }
        if (rows[r].size != present.bed.houses) {
            return find(SIZE);
        }
        for (int i = 0; i < rows[r].size; i++) {
            int seen = rows[r].places[i];
            if (seen != NONE && !isWithin(seen, 0, MOST_MARK)) {
                return find(UNLIKE);
            }
        }
        return 0;
    }

    private int refusedJobs(int takes, int due) {
        if (!isRow(takes) || !isRow(due)) {
            return BAD;
        }
        if (!rows[takes].isThere() || !rows[due].isThere()) {
            return find(NOTHING);
        }
        if (rows[takes].size > MOST_JOBS || rows[takes].size != rows[due].size) {
            return find(SIZE);
        }
        boolean isTold = rows[takes].isAllWithin(1, MOST_TAKES)
                && rows[due].isAllWithin(0, MOST_DUE);
        return isTold ? 0 : find(UNLIKE);
    }

    // ---- tuesdays aside

    private int wouldRunOn(int i) {
        trialWaters.takeFrom(present.now);
        trialWaters.pass(present.bed, 1);
        return trialWaters.ran[i];
    }

    private void leadAside(int plan) {
        today.begin(present.now);
        today.lead(present.bed, plan);
    }

    private static boolean hasBit(int bits, int i) {
        return (bits >> i & 1) == 1;
    }

    private int boatPairs(int cutOff) {
        int pairs = 0;
        int run = 0;
        for (int i = 0; i < present.bed.houses; i++) {
            if (hasBit(cutOff, i)) {
                pairs += run;
                run++;
            } else {
                run = 0;
            }
        }
        return pairs;
    }

    // Plans in this order share their early hours with the plan ahead of them, so that
    // a Tuesday has few hours to lead anew.
    private static int mirrored(int n) {
        int plan = 0;
        for (int h = 0; h < DAY; h++) {
            if (hasBit(n, h)) {
                plan |= 1 << (DAY - 1 - h);
            }
        }
        return plan;
    }

    // The least rank is the best plan: plans don't come by their numbers, so that the
    // number itself has to be the last thing that decides.
    private static long rank(int first, int second, int plan) {
        return (first * 100000L + second) * PLANS + plan;
    }

    private static int planOfRank(long rank) {
        return (int) (rank & (PLANS - 1));
    }

    private void gatherFits(Row seen) {
        fits.size = 0;
        today.begin(present.now);
        for (int n = 0; n < PLANS; n++) {
            int plan = mirrored(n);
            today.lead(present.bed, plan);
            if (isLike(seen)) {
                fits.add(plan, today.markAt[DAY]);
            }
        }
    }

    private boolean isLike(Row seen) {
        for (int i = 0; i < present.bed.houses; i++) {
            if (seen.places[i] != NONE && seen.places[i] != today.markAt[DAY][i]) {
                return false;
            }
        }
        return true;
    }

    // ---- sills aside

    // On a Tuesday without harm all water goes as if no cellar had room, whatever the
    // sills are: so each sill has to be as high as the water stands then, and no higher.
    private int findRaises(int plan) {
        trialBed.takeFrom(present.bed);
        System.arraycopy(present.now.below, 0, trialBed.cellar, 0, MOST_HOUSES);
        today.begin(present.now);
        today.lead(trialBed, plan);
        int together = 0;
        for (int i = 0; i < present.bed.houses; i++) {
            boolean hasRoom = present.bed.cellar[i] > present.now.below[i];
            int above = Math.max(today.markAt[DAY][i] - present.bed.height[i], 0);
            perHouse[i] = hasRoom ? above : 0;
            together += perHouse[i];
        }
        return together;
    }

    private int harmWithRaised(int i, int plan) {
        trialBed.takeFrom(present.bed);
        trialBed.height[i]++;
        today.begin(present.now);
        today.lead(trialBed, plan);
        return today.harmDone();
    }

    // ---- lots

    private void countBits(int bits) {
        for (int i = 0; i < MOST_HOUSES; i++) {
            if (hasBit(bits, i)) {
                perHouse[i]++;
            }
        }
    }

    private int mostOften() {
        int best = NONE;
        int times = 0;
        for (int i = 0; i < MOST_HOUSES; i++) {
            if (perHouse[i] > times) {
                best = i;
                times = perHouse[i];
            }
        }
        return best;
    }

    // ---- what is there

    // Is at least 1, as long as some water came in.
    private int standingDivisor() {
        int a = present.now.in;
        int b = present.now.standing();
        for (int step = 0; step < 64 && b != 0; step++) {
            int rest = a % b;
            a = b;
            b = rest;
        }
        return Math.max(a, 1);
    }

    private int keptStreets() {
        int n = 0;
        for (int k = 0; k < KEEPS; k++) {
            n += isKept[k] ? 1 : 0;
        }
        return n;
    }

    private int rowsThere() {
        int n = 0;
        for (int r = 0; r < ROWS; r++) {
            n += rows[r].isThere() ? 1 : 0;
        }
        return n;
    }

    private int textsThere() {
        int n = 0;
        for (int t = 0; t < TEXTS; t++) {
            n += texts[t].isThere() ? 1 : 0;
        }
        return n;
    }

    /** A row of ints, or a missing one. */
    private static final class Row {
        final int[] places = new int[PLACES];
        int size = MISSING;

        boolean isThere() {
            return size != MISSING;
        }

        void begin(int n) {
            Arrays.fill(places, 0);
            size = n;
        }

        void takeFrom(int[] from, int n) {
            System.arraycopy(from, 0, places, 0, n);
            size = n;
        }

        // i + n might not be an int, so the rest behind i is what n is held against.
        boolean hasRun(int i, int n) {
            return i >= 0 && i <= size && n <= size - i;
        }

        boolean isAllWithin(int least, int most) {
            for (int i = 0; i < size; i++) {
                if (!isWithin(places[i], least, most)) {
                    return false;
                }
            }
            return true;
        }

        long sum() {
            long all = 0;
            for (int i = 0; i < size; i++) {
                all += places[i];
            }
            return all;
        }

        // Only asked of rows of water, which is never below 0.
        int greatest() {
            int most = 0;
            for (int i = 0; i < size; i++) {
                most = Math.max(most, places[i]);
            }
            return most;
        }

        long foldedInto(long h) {
            h = 31 * h + size;
            for (int i = 0; i < size; i++) {
                h = 31 * h + places[i];
            }
            return h;
        }
    }

    /** A row of bytes, or a missing one. */
    private static final class Text {
        final byte[] signs = new byte[PLACES];
        int size = MISSING;

        boolean isThere() {
            return size != MISSING;
        }

        void begin(int n) {
            Arrays.fill(signs, (byte) BLANK);
            size = n;
        }

        int behindBlanks(int from) {
            int i = from;
            while (i < size && signs[i] == BLANK) {
                i++;
            }
            return i;
        }

        // A figure's value; MISSING if there is none.
        int figureAt(int i) {
            boolean isFigure = i < size && signs[i] >= '0' && signs[i] <= '9';
            return isFigure ? signs[i] - '0' : MISSING;
        }

        // A kind's number; MISSING if its letter is none.
        int kindAt(int i) {
            switch (signs[i]) {
                case 'h':
                    return 0;
                case 'm':
                    return MILL;
                case 's':
                    return SHOP;
                case 'd':
                    return DAM;
                case 'w':
                    return WHEEL;
                case 'l':
                    return LOCK;
                default:
                    return MISSING;
            }
        }

        long foldedInto(long h) {
            h = 31 * h + size;
            for (int i = 0; i < size; i++) {
                h = 31 * h + signs[i];
            }
            return h;
        }
    }

    /** What no hour changes: the houses, the flow and the sea. */
    private static final class Bed {
        final int[] kinds = new int[MOST_HOUSES];
        final int[] ground = new int[MOST_HOUSES];
        final int[] height = new int[MOST_HOUSES];
        final int[] cellar = new int[MOST_HOUSES];
        final int[] shutBit = new int[MOST_HOUSES];
        int houses;
        int inflow;
        int sea;

        void takeFrom(Bed other) {
            System.arraycopy(other.kinds, 0, kinds, 0, MOST_HOUSES);
            System.arraycopy(other.ground, 0, ground, 0, MOST_HOUSES);
            System.arraycopy(other.height, 0, height, 0, MOST_HOUSES);
            System.arraycopy(other.cellar, 0, cellar, 0, MOST_HOUSES);
            System.arraycopy(other.shutBit, 0, shutBit, 0, MOST_HOUSES);
            houses = other.houses;
            inflow = other.inflow;
            sea = other.sea;
        }

        boolean hasHouse(int i) {
            return i >= 0 && i < houses;
        }

        boolean isOfKind(int i, int kind) {
            int own = kinds[i];
            return own == kind || own == WHEEL && kind == MILL || own == LOCK && kind == DAM;
        }

        int grinds(int i, int runningOn) {
            if (kinds[i] == WHEEL) {
                return runningOn / 2;
            }
            return kinds[i] == MILL && runningOn >= 2 ? 1 : 0;
        }

        int letsOn(int i) {
            if (shutBit[i] == 1) {
                return 0;
            }
            return kinds[i] == DAM || kinds[i] == LOCK ? DAM_LETS_ON : ANY;
        }

        int howManyOf(int kind) {
            int n = 0;
            for (int i = 0; i < houses; i++) {
                n += isOfKind(i, kind) ? 1 : 0;
            }
            return n;
        }

        int howManyShut() {
            int n = 0;
            for (int i = 0; i < houses; i++) {
                n += shutBit[i];
            }
            return n;
        }

        // The fault's place, or NONE; the bed is of use only if there is none.
        int readStreet(Text text) {
            houses = 0;
            Arrays.fill(shutBit, 0);
            int i = text.behindBlanks(0);
            if (i >= text.size || text.signs[i] != 'q') {
                return i;
            }
            inflow = text.figureAt(i + 1);
            if (inflow < 1) {
                return i + 1;
            }
            sea = text.figureAt(i + 2);
            if (sea == MISSING) {
                return i + 2;
            }
            return readHouses(text, i + 3);
        }

        // A ninth house is read, too, so that its place is found as the fault.
        private int readHouses(Text text, int from) {
            int i = text.behindBlanks(from);
            for (int n = 0; n <= MOST_HOUSES && i < text.size; n++) {
                int fault = readHouse(text, i);
                if (fault != NONE) {
                    return fault;
                }
                i = text.behindBlanks(i + 4);
            }
            return NONE;
        }

        private int readHouse(Text text, int i) {
            int kind = text.kindAt(i);
            if (houses >= MOST_HOUSES || kind == MISSING) {
                return i;
            }
            for (int k = 1; k <= 3; k++) {
                if (text.figureAt(i + k) == MISSING) {
                    return i + k;
                }
            }
            kinds[houses] = kind;
            ground[houses] = text.figureAt(i + 1);
            height[houses] = text.figureAt(i + 2);
            cellar[houses] = text.figureAt(i + 3);
            houses++;
            return NONE;
        }
    }

    /** What hours change: where the water is, and what was ground. */
    private static final class Waters {
        static final int SAVED = 3 * MOST_HOUSES + 2;

        final int[] ahead = new int[MOST_HOUSES];
        final int[] below = new int[MOST_HOUSES];
        final int[] flour = new int[MOST_HOUSES];
        final int[] ran = new int[MOST_HOUSES];
        final int[] sank = new int[MOST_HOUSES];
        int in;
        int out;

        void begin() {
            Arrays.fill(ahead, 0);
            Arrays.fill(below, 0);
            Arrays.fill(flour, 0);
            in = 0;
            out = 0;
        }

        // ran and sank tell of one hour alone and are never read ahead of the next one.
        void takeFrom(Waters other) {
            System.arraycopy(other.ahead, 0, ahead, 0, MOST_HOUSES);
            System.arraycopy(other.below, 0, below, 0, MOST_HOUSES);
            System.arraycopy(other.flour, 0, flour, 0, MOST_HOUSES);
            in = other.in;
            out = other.out;
        }

        void saveTo(int[] past, int from) {
            System.arraycopy(ahead, 0, past, from, MOST_HOUSES);
            System.arraycopy(below, 0, past, from + MOST_HOUSES, MOST_HOUSES);
            System.arraycopy(flour, 0, past, from + 2 * MOST_HOUSES, MOST_HOUSES);
            past[from + 3 * MOST_HOUSES] = in;
            past[from + 3 * MOST_HOUSES + 1] = out;
        }

        void loadFrom(int[] past, int from) {
            System.arraycopy(past, from, ahead, 0, MOST_HOUSES);
            System.arraycopy(past, from + MOST_HOUSES, below, 0, MOST_HOUSES);
            System.arraycopy(past, from + 2 * MOST_HOUSES, flour, 0, MOST_HOUSES);
            in = past[from + 3 * MOST_HOUSES];
            out = past[from + 3 * MOST_HOUSES + 1];
        }

        void pass(Bed bed, int open) {
            if (open == 1) {
                ahead[0] += bed.inflow;
                in += bed.inflow;
            }
            for (int i = 0; i < bed.houses; i++) {
                runDown(bed, i);
            }
            for (int i = 0; i < bed.houses; i++) {
                sinkIntoCellar(bed, i);
            }
        }

        private void runDown(Bed bed, int i) {
            int half = Math.max(drop(bed, i) + 1, 0) / 2;
            int on = Math.min(Math.min(half, ahead[i]), bed.letsOn(i));
            ran[i] = on;
            flour[i] += bed.grinds(i, on);
            ahead[i] -= on;
            if (i + 1 < bed.houses) {
                ahead[i + 1] += on;
            } else {
                out += on;
            }
        }

        int drop(Bed bed, int i) {
            int next = i + 1 < bed.houses ? bed.ground[i + 1] + ahead[i + 1] : bed.sea;
            return bed.ground[i] + ahead[i] - next;
        }

        private void sinkIntoCellar(Bed bed, int i) {
            int above = Math.max(ahead[i] - bed.height[i], 0);
            int sinking = Math.min(above, bed.cellar[i] - below[i]);
            sank[i] = sinking;
            ahead[i] -= sinking;
            below[i] += sinking;
        }

        int pumpOut(int i) {
            int pumped = below[i];
            below[i] = 0;
            out += pumped;
            return pumped;
        }

        void emptyCellars() {
            Arrays.fill(below, 0);
        }

        int harmOfHour(Bed bed) {
            int harmDone = 0;
            for (int i = 0; i < bed.houses; i++) {
                harmDone += bed.kinds[i] == SHOP ? 2 * sank[i] : sank[i];
            }
            return harmDone;
        }

        int sankBits(int houses) {
            int bits = 0;
            for (int i = 0; i < houses; i++) {
                bits |= sank[i] > 0 ? 1 << i : 0;
            }
            return bits;
        }

        // Places behind the last house hold 0, so that sums may go over all of them.

        int allAhead() {
            return sumOf(ahead);
        }

        int allFlour() {
            return sumOf(flour);
        }

        int standing() {
            return sumOf(ahead) + sumOf(below);
        }

        private static int sumOf(int[] parts) {
            int sum = 0;
            for (int i = 0; i < parts.length; i++) {
                sum += parts[i];
            }
            return sum;
        }
    }

    /** A bed with its water and with all hours that can be undone. */
    private static final class Street {
        final Bed bed = new Bed();
        final Waters now = new Waters();
        final int[] past = new int[MOST_HOURS * Waters.SAVED];
        final int[] openBit = new int[MOST_HOURS];
        int hours;

        void begin(Bed as) {
            bed.takeFrom(as);
            now.begin();
            hours = 0;
        }

        void takeFrom(Street other) {
            bed.takeFrom(other.bed);
            now.takeFrom(other.now);
            System.arraycopy(other.past, 0, past, 0, other.hours * Waters.SAVED);
            System.arraycopy(other.openBit, 0, openBit, 0, other.hours);
            hours = other.hours;
        }

        boolean hasRoomFor(int more) {
            return hours + more <= MOST_HOURS;
        }

        void pass(int open) {
            now.saveTo(past, hours * Waters.SAVED);
            openBit[hours] = open;
            hours++;
            now.pass(bed, open);
        }

        int goBack(int to) {
            int undone = hours - to;
            if (undone > 0) {
                now.loadFrom(past, to * Waters.SAVED);
                hours = to;
            }
            return undone;
        }

        int ofHouse(int i, int what) {
            switch (what) {
                case 0:
                    return bed.kinds[i];
                case 1:
                    return bed.ground[i];
                case 2:
                    return bed.height[i];
                case 3:
                    return bed.cellar[i];
                case 4:
                    return now.ahead[i];
                case 5:
                    return now.below[i];
                default:
                    return now.flour[i];
            }
        }

        long foldedInto(long h) {
            boolean isBuilt = bed.houses > 0;
            h = 31 * h + (isBuilt ? bed.inflow : 0);
            h = 31 * h + (isBuilt ? bed.sea : 0);
            h = 31 * h + now.in;
            h = 31 * h + now.out;
            for (int i = 0; i < bed.houses; i++) {
                for (int what = 0; what <= 6; what++) {
                    h = 31 * h + ofHouse(i, what);
                }
                h = 31 * h + bed.shutBit[i];
            }
            for (int n = 0; n < hours; n++) {
                h = 31 * h + openBit[n];
            }
            return h;
        }
    }

    /** A Tuesday led aside; place h + 1 of its rows tells how it is behind hour h. */
    private static final class Tuesday {
        final Waters[] behind = new Waters[DAY + 1];
        final int[] harmSoFar = new int[DAY + 1];
        final int[] wetBits = new int[DAY + 1];
        final int[][] markAt = new int[DAY + 1][MOST_HOUSES];
        private int latestPlan;
        private boolean isLed;

        Tuesday() {
            for (int h = 0; h <= DAY; h++) {
                behind[h] = new Waters();
            }
        }

        void begin(Waters from) {
            behind[0].takeFrom(from);
            isLed = false;
        }

        // Between two begin() the bed has to stay as it is: hours that the plan has in
        // common with the latest one are not led again.
        void lead(Bed bed, int plan) {
            for (int h = hoursAlike(plan); h < DAY; h++) {
                leadHour(bed, plan, h);
            }
            latestPlan = plan;
            isLed = true;
        }

        private int hoursAlike(int plan) {
            if (!isLed) {
                return 0;
            }
            int unlike = plan ^ latestPlan;
            return unlike == 0 ? DAY : Integer.bitCount((unlike & -unlike) - 1);
        }

        private void leadHour(Bed bed, int plan, int h) {
            Waters next = behind[h + 1];
            next.takeFrom(behind[h]);
            next.pass(bed, plan >> h & 1);
            harmSoFar[h + 1] = harmSoFar[h] + next.harmOfHour(bed);
            wetBits[h + 1] = wetBits[h] | next.sankBits(bed.houses);
            for (int i = 0; i < bed.houses; i++) {
                markAt[h + 1][i] = Math.max(markAt[h][i], next.ahead[i]);
            }
        }

        int harmDone() {
            return harmSoFar[DAY];
        }

        int grindings() {
            return behind[DAY].allFlour() - behind[0].allFlour();
        }

        int runOut() {
            return behind[DAY].out - behind[0].out;
        }

        int cutOffBits(int h) {
            int bits = 0;
            for (int i = 0; i < MOST_HOUSES; i++) {
                bits |= behind[h + 1].ahead[i] >= CUT_OFF ? 1 << i : 0;
            }
            return bits;
        }
    }

    /** The plans that fit what was seen, each with all its marks. */
    private static final class Fits {
        private final int[] plans = new int[PLANS];
        private final int[] markOf = new int[PLANS * MOST_HOUSES];
        private final int[] tally = new int[MOST_MARK + 1];
        int size;

        void add(int plan, int[] from) {
            if (size < PLANS) {
                plans[size] = plan;
                System.arraycopy(from, 0, markOf, size * MOST_HOUSES, MOST_HOUSES);
                size++;
            }
        }

        int leastPlan() {
            if (size == 0) {
                return NONE;
            }
            int best = plans[0];
            for (int n = 1; n < size; n++) {
                best = Math.min(best, plans[n]);
            }
            return best;
        }

        int openInAll() {
            int bits = PLANS - 1;
            for (int n = 0; n < size; n++) {
                bits &= plans[n];
            }
            return bits;
        }

        int shutInAll() {
            int bits = PLANS - 1;
            for (int n = 0; n < size; n++) {
                bits &= ~plans[n];
            }
            return bits;
        }

        // Only the places that are used are set to 0 first: they are few.
        int mostAlike(int i) {
            for (int n = 0; n < size; n++) {
                tally[tallyPlace(n, i)] = 0;
            }
            int most = 0;
            for (int n = 0; n < size; n++) {
                int place = tallyPlace(n, i);
                tally[place]++;
                most = Math.max(most, tally[place]);
            }
            return most;
        }

        // In 60 hours and a Tuesday at most 612 come in, so that no mark is beyond this.
        private int tallyPlace(int n, int i) {
            return Math.min(Math.max(markOf[n * MOST_HOUSES + i], 0), MOST_MARK);
        }
    }

    /** Monday's jobs. */
    private static final class Jobs {
        private final int[] takes = new int[MOST_JOBS];
        private final int[] due = new int[MOST_JOBS];
        private final int[] order = new int[MOST_JOBS];
        final int[] bestOrder = new int[MOST_JOBS];
        int size;

        void takeFrom(Row takesRow, Row dueRow) {
            size = Math.min(takesRow.size, MOST_JOBS);
            for (int n = 0; n < size; n++) {
                takes[n] = takesRow.places[n];
                due[n] = dueRow.places[n];
                order[n] = n;
            }
        }

        // Orders come by their numbers, so that only a better one takes the first's place.
        int findBestOrder() {
            int least = ANY;
            boolean isMore = true;
            for (int n = 0; n < ORDERS && isMore; n++) {
                int late = lateTogether();
                if (late < least) {
                    least = late;
                    System.arraycopy(order, 0, bestOrder, 0, size);
                }
                isMore = goToNextOrder();
            }
            return least;
        }

        private int lateTogether() {
            int time = 0;
            int late = 0;
            for (int n = 0; n < size; n++) {
                time += takes[order[n]];
                late += Math.max(time - due[order[n]], 0);
            }
            return late;
        }

        private boolean goToNextOrder() {
            int i = size - 2;
            while (i >= 0 && order[i] > order[i + 1]) {
                i--;
            }
            if (i < 0) {
                return false;
            }
            int j = size - 1;
            while (j > i && order[j] < order[i]) {
                j--;
            }
            swap(i, j);
            for (int a = i + 1, b = size - 1; a < b; a++, b--) {
                swap(a, b);
            }
            return true;
        }

        private void swap(int i, int j) {
            int was = order[i];
            order[i] = order[j];
            order[j] = was;
        }

        // Jobs can all be done in time if they can in the order in which they are due.
        int findMostInTime() {
            orderByDue();
            int best = 0;
            for (int which = 1; which < 1 << size; which++) {
                if (Integer.bitCount(which) > Integer.bitCount(best) && isInTime(which)) {
                    best = which;
                }
            }
            return best;
        }

        private void orderByDue() {
            for (int n = 1; n < size; n++) {
                for (int i = n; i > 0 && due[order[i - 1]] > due[order[i]]; i--) {
                    swap(i - 1, i);
                }
            }
        }

        private boolean isInTime(int which) {
            int time = 0;
            for (int n = 0; n < size; n++) {
                int job = order[n];
                if (hasBit(which, job)) {
                    time += takes[job];
                    if (time > due[job]) {
                        return false;
                    }
                }
            }
            return true;
        }
    }
}
