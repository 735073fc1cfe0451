import java.util.NoSuchElementException;

/**
 * Two unknowns that are to be whole, rows that bound them, and what splits cut off.
 *
 * <p>What an object needs is made in its constructor and used again: no call makes an object, because all calls of a
 * run share one small room.
 */
public final class SplitSlices {
    public static final int NONE = -1;

    /** Answers below NONE, by what they tell. */
    private static final int NO_SUCH = -2;
    private static final int IS_SO = -2;
    private static final int IN_ALL = -2;
    private static final int NO_LENGTH = -2;
    private static final int SIX_ROWS = -2;
    private static final int EIGHT_CUTS = -3;
    private static final int MISSING = -3;

    private static final int LAST_WHOLE = 6;
    private static final int WHOLES = 7;
    private static final int MOST_ROWS = 6;
    private static final int BOX_ROWS = 4;
    private static final int MOST_CUTS = 8;
    private static final int MOST_UNDONE = 8;
    private static final int MOST_SIGNS = 80;
    private static final int KEPT_PLANS = 2;
    private static final int SLICED_REGIONS = 3;
    private static final int LAST_REGION = 3;
    private static final int LAST_CUT = 5;
    private static final int HIGH_SIDE = 0;

    /** a, b, c of the four rows that always stand behind those that were told. */
    private static final int[] BOX = {-1, 0, 0, 1, 0, 6, 0, -1, 0, 0, 1, 6};

    /** Where a cut's numbers stand: first what cut() tells, in its order, then the split, which proofs need. */
    private static final int CUT_A = 0;
    private static final int CUT_B = 1;
    private static final int CUT_C = 2;
    private static final int CUT_I = 3;
    private static final int CUT_U = 5;
    private static final int CUT_S = 7;
    private static final int CUT_V = 9;
    private static final int CUT_T = 11;
    private static final int CUT_TOLD = 13;
    private static final int CUT_WAY = 13;
    private static final int CUT_AT = 14;
    private static final int CUT_NUMBERS = 15;

    private final Plan now = new Plan();
    private final Plan trial = new Plan();
    private final Plan[] kept = new Plan[KEPT_PLANS];
    private final boolean[] isKept = new boolean[KEPT_PLANS];
    private final History history = new History();
    private final Signs text = new Signs();
    private final Numbers numbers = new Numbers();
    private final Regions regions = new Regions();
    private final CutFinder finder = new CutFinder();
    private final WholePoints points = new WholePoints();
    private final Most[] mosts = new Most[4];
    private final Ratio ratio = new Ratio();
    private final Draws draws = new Draws();

    public SplitSlices() {
        for (int i = 0; i < kept.length; i++) {
            kept[i] = new Plan();
        }
        for (int what = 0; what < mosts.length; what++) {
            mosts[what] = new Most();
        }
    }

    // ---- texts, rows

    public int sign(int v) {
        if (text.size() + 4 > MOST_SIGNS) {
            return NONE;
        }
        for (int shift = 24; shift >= 0; shift -= 8) {
            text.append((v >>> shift) & 255);
        }
        return text.size();
    }

    public boolean end(int n) {
        return text.shorten(n);
    }

    public int rows() {
        int wrongSign = text.readRows(trial);
        text.shorten(0);
        if (wrongSign != NONE) {
            return -1 - wrongSign;
        }
        int wrongRow = trial.firstWrongRow();
        if (wrongRow != NONE) {
            return -100 - wrongRow;
        }
        history.open(now);
        now.copyRows(trial);
        return noted(now.rowCount);
    }

    public int row(int k, int what) throws NoSuchElementException {
        if (k < 0 || k >= now.allRows() || what < 0 || what > 2) {
            throw new NoSuchElementException("no such row, or no such part of it");
        }
        return now.part(k, what);
    }

    public int sheet(int kind, int n, int f, int step) {
        if (kind < 0 || kind > 3 || n > MOST_ROWS) {
            return NONE;
        }
        boolean missing = kind == 3;
        if (n < 0 && !missing) {
            return NO_LENGTH;
        }
        for (int k = 0; k < now.rowCount; k++) {
            boolean isThere = !missing && k < n;
            now.putBound(k, isThere ? Math.floorMod(sheetEntry(kind, f + k * step), 51) : 0);
        }
        return missing ? MISSING : now.rowCount;
    }

    private static int sheetEntry(int kind, int value) {
        if (kind == 0) {
            return (byte) value;
        }
        return kind == 1 ? (short) value : value;
    }

    public int becomes(int k, int c) {
        history.open(now);
        return noted(now.changeBound(k, c));
    }

    public int adds(int a, int b, int c) {
        history.open(now);
        return noted(now.addRow(a, b, c));
    }

    public int drops(int k) {
        history.open(now);
        return noted(now.dropRow(k));
    }

    /** What was opened in the history is kept there only if the change was made. */
    private int noted(int answer) {
        if (answer >= 0) {
            history.close();
        }
        return answer;
    }

    // ---- regions

    public int slice(int r, int way, int k) {
        if (r < 0 || r >= SLICED_REGIONS || !isWay(way) || k < 0 || k > LAST_WHOLE) {
            return NONE;
        }
        regions.workOut(now, r);
        Slice slice = regions.at(r, way, k);
        if (slice.empty) {
            return 0;
        }
        numbers.clear();
        numbers.tellRatio(slice.low);
        numbers.tellRatio(slice.high);
        return 1;
    }

    public int inside(int r, int x, int y, int d) {
        if (r < 0 || r > LAST_REGION || !isPoint(x, y, d)) {
            return NONE;
        }
        regions.workOut(now, r - 1);
        return regions.contain(now, r, x, y, d) ? 1 : 0;
    }

    public int round(int x, int y, int d) {
        if (!isPoint(x, y, d)) {
            return NONE;
        }
        regions.workOut(now, LAST_REGION - 1);
        for (int r = 0; r <= LAST_REGION; r++) {
            if (!regions.contain(now, r, x, y, d)) {
                return r;
            }
        }
        return IN_ALL;
    }

    public int splits(int r, int x, int y, int d) {
        if (r < 0 || r >= SLICED_REGIONS || !isPoint(x, y, d)) {
            return NONE;
        }
        regions.workOut(now, r);
        if (!regions.contain(now, r, x, y, d)) {
            return NO_SUCH;
        }
        int first = regions.passes(r, 0, x, y, d) ? 0 : 1;
        int second = regions.passes(r, 1, x, y, d) ? 0 : 1;
        numbers.clear();
        numbers.tell(first);
        numbers.tell(second);
        return first + second;
    }

    public int slices(int r) {
        if (r < 0 || r >= SLICED_REGIONS) {
            return NONE;
        }
        regions.workOut(now, r);
        int first = regions.filled(r, 0);
        int second = regions.filled(r, 1);
        numbers.clear();
        numbers.tell(first);
        numbers.tell(second);
        if (r < SLICED_REGIONS - 1) {
            regions.findLongest(r, ratio);
            numbers.tellRatio(ratio);
        }
        return first + second;
    }

    private static boolean isWay(int way) {
        return way == 0 || way == 1;
    }

    private static boolean isPoint(int x, int y, int d) {
        return d >= 1 && d <= 12 && x >= 0 && x <= LAST_WHOLE * d && y >= 0 && y <= LAST_WHOLE * d;
    }

    // ---- cuts

    public int cut(int way, int side, int k) {
        int answer = findCut(way, side, k);
        if (answer >= 0) {
            numbers.clear();
            for (int i = 0; i < CUT_TOLD; i++) {
                numbers.tell(finder.found[i]);
            }
        }
        return answer;
    }

    /** The cut is then the finder's: 1, or what refuses it. */
    private int findCut(int way, int side, int k) {
        if (!isWay(way) || (side != 0 && side != 1) || k < 0 || k > LAST_CUT) {
            return NONE;
        }
        regions.workOutFirst(now);
        return finder.find(now, regions, way, side, k) ? 1 : NO_SUCH;
    }

    public int stores(int way, int side, int k) {
        history.open(now);
        return noted(storeFound(findCut(way, side, k)));
    }

    /** What findCut() answered goes on if it refuses. */
    private int storeFound(int answer) {
        return answer < 0 ? answer : now.addCut(finder.found);
    }

    public int checks(int i) {
        if (!now.hasCut(i)) {
            return NONE;
        }
        numbers.clear();
        for (int part = CUT_A; part <= CUT_C; part++) {
            numbers.tell(now.cuts[i][part]);
        }
        return now.proofChecks(i) ? 1 : 0;
    }

    public int stronger(int i) {
        if (!now.hasCut(i)) {
            return NONE;
        }
        long[] cut = now.cuts[i];
        long divisor = greatestDivisor(cut[CUT_A], cut[CUT_B]);
        if (divisor < 1) {
            return NONE;
        }
        long a = cut[CUT_A] / divisor;
        long b = cut[CUT_B] / divisor;
        long c = Math.floorDiv(cut[CUT_C], divisor);
        points.gather(now, NONE);
        numbers.clear();
        numbers.tell(a);
        numbers.tell(b);
        numbers.tell(c * divisor != cut[CUT_C] ? 1 : 0);
        numbers.tell(points.above(a, b, c));
        return (int) c;
    }

    public int clears() {
        history.open(now);
        return noted(now.dropCuts());
    }

    public int breaks(int x, int y, int d) {
        if (!isPoint(x, y, d)) {
            return NONE;
        }
        if (now.cutCount == 0) {
            return NO_SUCH;
        }
        int first = 0;
        for (int i = 1; i < now.cutCount; i++) {
            if (now.cutExcess(i, x, y, d) > now.cutExcess(first, x, y, d)) {
                first = i;
            }
        }
        ratio.put(now.cutExcess(first, x, y, d), d);
        numbers.clear();
        numbers.tellRatio(ratio);
        return first;
    }

    // ---- whole points

    public int wholes() {
        points.gather(now, NONE);
        numbers.clear();
        if (points.size > 0) {
            points.tell(0, numbers);
            points.tell(points.size - 1, numbers);
        }
        return points.size;
    }

    public int hull() {
        points.gather(now, NONE);
        points.findCorners();
        numbers.clear();
        for (int i = 0; i < points.corners && i < points.chain.length; i++) {
            points.tell(points.chain[i], numbers);
        }
        return points.corners;
    }

    public int nearest(int x, int y, int d) {
        if (!isPoint(x, y, d)) {
            return NONE;
        }
        points.gather(now, NONE);
        if (points.size == 0) {
            return NO_SUCH;
        }
        int first = 0;
        int asNear = 1;
        for (int i = 1; i < points.size; i++) {
            int order = Long.compare(points.distance(i, x, y, d), points.distance(first, x, y, d));
            if (order < 0) {
                first = i;
                asNear = 1;
            } else if (order == 0) {
                asNear++;
            }
        }
        ratio.put(points.distance(first, x, y, d), (long) d * d);
        numbers.clear();
        points.tell(first, numbers);
        numbers.tellRatio(ratio);
        return asNear;
    }

    public int most(int a, int b, int what) {
        if (!isSum(a, b) || what < 0 || what >= mosts.length) {
            return NONE;
        }
        findMost(a, b, what);
        if (!mosts[what].found) {
            return NO_SUCH;
        }
        numbers.clear();
        numbers.tellRatio(mosts[what].best);
        return 0;
    }

    private static boolean isSum(int a, int b) {
        return a >= -9 && a <= 9 && b >= -9 && b <= 9;
    }

    private void findMost(int a, int b, int what) {
        Most most = mosts[what];
        most.start(a, b);
        if (what == 0) {
            most.overCorners(now);
        } else if (what == 3) {
            points.gather(now, NONE);
            most.overPoints(points);
        } else {
            regions.workOutFirst(now);
            most.overSlices(regions, what - 1);
        }
    }

    public int gains(int a, int b) {
        if (!isSum(a, b)) {
            return NONE;
        }
        for (int what = 0; what < mosts.length; what++) {
            findMost(a, b, what);
        }
        if (!mosts[3].found) {
            return NO_SUCH;
        }
        int way = mosts[2].best.isBelow(mosts[1].best) ? 1 : 0;
        numbers.clear();
        ratio.putDifference(mosts[0].best, mosts[1 + way].best);
        numbers.tellRatio(ratio);
        ratio.putDifference(mosts[0].best, mosts[3].best);
        numbers.tellRatio(ratio);
        return way;
    }

    public int loses(int a, int b, int c) {
        if (!isRow(a, b, c)) {
            return NONE;
        }
        points.gather(now, NONE);
        int lost = points.above(a, b, c);
        numbers.clear();
        numbers.tell(points.size - lost);
        return lost;
    }

    private static boolean isRow(int a, int b, int c) {
        return a >= -5 && a <= 5 && b >= -5 && b <= 5 && (a != 0 || b != 0) && isBound(c);
    }

    private static boolean isBound(int c) {
        return c >= -50 && c <= 50;
    }

    public int tightest() {
        int first = NO_SUCH;
        int greatest = NONE;
        for (int k = 0; k < now.rowCount; k++) {
            points.gather(now, k);
            if (points.size > greatest) {
                greatest = points.size;
                first = k;
            }
        }
        if (first >= 0) {
            numbers.clear();
            numbers.tell(greatest);
        }
        return first;
    }

    // ---- days, years

    public int day() {
        int wrongSign = text.dayFault();
        if (wrongSign != NONE) {
            text.shorten(0);
            return -1 - wrongSign;
        }
        history.open(now);
        int done = 0;
        int p = 0;
        for (int acts = 0; acts < MOST_SIGNS && p < text.size() && act(p) >= 0; acts++) {
            p += text.actLength(p);
            done++;
        }
        if (done > 0) {
            history.close();
        }
        numbers.clear();
        numbers.tell(p < text.size() ? 1 : 0);
        text.shorten(0);
        return done;
    }

    /** Does the ACT that begins at p, whose signs have been looked at. */
    private int act(int p) {
        switch (text.at(p)) {
            case 'b':
                return now.changeBound(text.number(p + 1, 1), text.signed(p + 2, 2));
            case 'd':
                return now.dropRow(text.number(p + 1, 1));
            case 's':
                return storeFound(findCut(text.number(p + 1, 1), text.number(p + 2, 1), text.number(p + 3, 1)));
            default:
                return now.dropCuts();
        }
    }

    public int undo() {
        return history.back(now) ? history.size : NONE;
    }

    public int years(int seed, int n) {
        if (n < 1 || n > 20) {
            return NONE;
        }
        trial.copyRows(now);
        draws.start(seed);
        int done = 0;
        for (int year = 0; year < n; year++) {
            if (changeByDraw(trial) >= 0) {
                done++;
            }
        }
        points.gather(trial, NONE);
        numbers.clear();
        numbers.tell(trial.rowCount);
        numbers.tell(done);
        return points.size;
    }

    private int changeByDraw(Plan plan) {
        switch (draws.next(3)) {
            case 0: {
                int k = draws.next(6);
                return plan.changeBound(k, draws.next(51));
            }
            case 1: {
                int a = draws.next(11) - 5;
                int b = draws.next(11) - 5;
                return plan.addRow(a, b, draws.next(41));
            }
            default:
                return plan.dropRow(draws.next(6));
        }
    }

    // ---- kept

    public boolean keep(int i) {
        if (i < 0 || i >= KEPT_PLANS) {
            return false;
        }
        kept[i].copy(now);
        isKept[i] = true;
        return true;
    }

    public boolean again(int i) {
        if (i < 0 || i >= KEPT_PLANS || !isKept[i]) {
            return false;
        }
        now.copy(kept[i]);
        history.forget();
        return true;
    }

    public int count(int what) {
        switch (what) {
            case 0:
                return now.rowCount;
            case 1:
                return now.cutCount;
            case 2:
                return now.checkedCuts();
            case 3:
                return history.size;
            case 4:
                return numbers.size;
            case 5:
                return text.size();
            case 6:
                points.gather(now, NONE);
                return points.cutOff(now);
            default:
                return NONE;
        }
    }

    public long told(int i) throws NoSuchElementException {
        if (i < 0 || i >= numbers.size) {
            throw new NoSuchElementException("no such number");
        }
        return numbers.at(i);
    }

    /** 0 if both are 0, else above 0. The steps are bounded: Euclid's way needs under a hundred for longs. */
    private static long greatestDivisor(long first, long second) {
        long big = Math.abs(first);
        long small = Math.abs(second);
        for (int step = 0; step < 100 && small != 0; step++) {
            long rest = big % small;
            big = small;
            small = rest;
        }
        return big;
    }

    /** A number that may not be whole, upper and lower one always as small as can be, the lower one above 0. */
    private static final class Ratio {
        private long up = 0;
        private long low = 1;

        void put(long newUp, long newLow) {
            long divisor = greatestDivisor(newUp, newLow);
            if (newLow == 0 || divisor == 0) {
                up = 0;
                low = 1;
                return;
            }
            long signed = newLow < 0 ? -divisor : divisor;
            up = newUp / signed;
            low = newLow / signed;
        }

        void copy(Ratio other) {
            up = other.up;
            low = other.low;
        }

        void putDifference(Ratio first, Ratio second) {
            put(first.up * second.low - second.up * first.low, first.low * second.low);
        }

        boolean isBelow(Ratio other) {
            return up * other.low < other.up * low;
        }
    }

    /** The points of a region on one straight line: none, or all from low to high. */
    private static final class Slice {
        private boolean empty = true;
        private final Ratio low = new Ratio();
        private final Ratio high = new Ratio();

        void fill() {
            empty = false;
            low.put(0, 1);
            high.put(LAST_WHOLE, 1);
        }

        /** Narrows by: across times what lies in it is at most rest. */
        void capBy(int across, long rest) {
            if (across > 0 && rest * high.low < high.up * across) {
                high.put(rest, across);
            } else if (across < 0 && rest * low.low < low.up * across) {
                low.put(rest, across);
            } else if (across == 0 && rest < 0) {
                empty = true;
            }
        }

        void meet(Slice other) {
            if (low.isBelow(other.low)) {
                low.copy(other.low);
            }
            if (other.high.isBelow(high)) {
                high.copy(other.high);
            }
        }

        void join(Ratio from, Ratio to) {
            if (empty || from.isBelow(low)) {
                low.copy(from);
            }
            if (empty || high.isBelow(to)) {
                high.copy(to);
            }
            empty = false;
        }

        void emptyIfCrossed() {
            if (high.isBelow(low)) {
                empty = true;
            }
        }

        /** Whether up by down (which is above 0) is in it. */
        boolean contains(long up, long down) {
            return !empty && low.up * down <= up * low.low && up * high.low <= high.up * down;
        }
    }

    /** ROWS and STORE: all that can be kept and undone. */
    private static final class Plan {
        private int rowCount = 0;
        private int cutCount = 0;
        private final int[] parts = new int[3 * MOST_ROWS];
        private final long[][] cuts = new long[MOST_CUTS][CUT_NUMBERS];

        void copy(Plan other) {
            copyRows(other);
            cutCount = other.cutCount;
            for (int i = 0; i < other.cutCount && i < MOST_CUTS; i++) {
                System.arraycopy(other.cuts[i], 0, cuts[i], 0, CUT_NUMBERS);
            }
        }

        void copyRows(Plan other) {
            rowCount = other.rowCount;
            System.arraycopy(other.parts, 0, parts, 0, parts.length);
        }

        int allRows() {
            return rowCount + BOX_ROWS;
        }

        boolean isTold(int k) {
            return k >= 0 && k < rowCount && k < MOST_ROWS;
        }

        /** a (0), b (1) or c (2) of ROW k. */
        int part(int k, int what) {
            if (k < 0 || k >= allRows() || what < 0 || what > 2) {
                return 0;
            }
            if (isTold(k)) {
                return parts[3 * k + what];
            }
            int place = 3 * (k - rowCount) + what;
            return place >= 0 && place < BOX.length ? BOX[place] : 0;
        }

        void putBound(int k, int c) {
            if (isTold(k)) {
                parts[3 * k + 2] = c;
            }
        }

        /** Without a look at its numbers: a text is asked for those when all its signs have been read. */
        void append(int a, int b, int c) {
            if (rowCount >= 0 && rowCount < MOST_ROWS) {
                parts[3 * rowCount] = a;
                parts[3 * rowCount + 1] = b;
                parts[3 * rowCount + 2] = c;
                rowCount++;
            }
        }

        int firstWrongRow() {
            for (int k = 0; k < rowCount; k++) {
                if (!isRow(part(k, 0), part(k, 1), part(k, 2))) {
                    return k;
                }
            }
            return NONE;
        }

        int changeBound(int k, int c) {
            if (!isTold(k) || !isBound(c)) {
                return NONE;
            }
            int before = part(k, 2);
            if (before == c) {
                return IS_SO;
            }
            putBound(k, c);
            return 100 + before;
        }

        int addRow(int a, int b, int c) {
            if (!isRow(a, b, c)) {
                return NONE;
            }
            if (rowCount >= MOST_ROWS) {
                return SIX_ROWS;
            }
            append(a, b, c);
            return rowCount;
        }

        int dropRow(int k) {
            if (!isTold(k)) {
                return NONE;
            }
            for (int i = 3 * k; i < 3 * (rowCount - 1) && i + 3 < parts.length; i++) {
                parts[i] = parts[i + 3];
            }
            rowCount--;
            return rowCount;
        }

        /** Whether all ROWS hold for (x by d, y by d); the one that is told to be left out is not asked. */
        boolean holds(int x, int y, int d, int leftOut) {
            for (int k = 0; k < allRows(); k++) {
                if (k != leftOut && part(k, 0) * x + part(k, 1) * y > part(k, 2) * d) {
                    return false;
                }
            }
            return true;
        }

        boolean hasCut(int i) {
            return i >= 0 && i < cutCount && i < MOST_CUTS;
        }

        int addCut(long[] cut) {
            if (cutCount < 0 || cutCount >= MOST_CUTS) {
                return EIGHT_CUTS;
            }
            System.arraycopy(cut, 0, cuts[cutCount], 0, CUT_NUMBERS);
            cutCount++;
            return cutCount;
        }

        int dropCuts() {
            int before = cutCount;
            cutCount = 0;
            return before;
        }

        /** d times by how much (x by d, y by d) is above what stored CUT i allows. */
        long cutExcess(int i, int x, int y, int d) {
            return hasCut(i) ? cuts[i][CUT_A] * x + cuts[i][CUT_B] * y - cuts[i][CUT_C] * d : 0;
        }

        int checkedCuts() {
            int checked = 0;
            for (int i = 0; i < cutCount; i++) {
                if (proofChecks(i)) {
                    checked++;
                }
            }
            return checked;
        }

        boolean proofChecks(int i) {
            return hasCut(i) && halfChecks(cuts[i], 0) && halfChecks(cuts[i], 1);
        }

        /** Half 0 of a PROOF is ROW i with u and s, half 1 is ROW j with v and t. */
        private boolean halfChecks(long[] cut, int half) {
            long k = cut[CUT_I + half];
            if (k < 0 || k >= allRows()) {
                return false;
            }
            int times = half == 0 ? CUT_U : CUT_V;
            int split = half == 0 ? CUT_S : CUT_T;
            long rowTimes = cut[times] * cut[split + 1];
            long splitTimes = cut[split] * cut[times + 1];
            long whole = cut[times + 1] * cut[split + 1];
            long z = half == 0 ? 1 : -1;
            long splitA = cut[CUT_WAY] == 0 ? z : 0;
            long splitB = cut[CUT_WAY] == 0 ? 0 : z;
            long splitC = z * (cut[CUT_AT] + half);
            return rowTimes * part((int) k, 0) + splitTimes * splitA == cut[CUT_A] * whole
                    && rowTimes * part((int) k, 1) + splitTimes * splitB == cut[CUT_B] * whole
                    && rowTimes * part((int) k, 2) + splitTimes * splitC <= cut[CUT_C] * whole;
        }
    }

    /** The SLICES of REGIONS 0 .. 2, as they were worked out last. */
    private static final class Regions {
        private final Slice[] slices = new Slice[SLICED_REGIONS * 2 * WHOLES];
        private final Ratio from = new Ratio();
        private final Ratio to = new Ratio();
        private final Ratio crossing = new Ratio();

        Regions() {
            for (int i = 0; i < slices.length; i++) {
                slices[i] = new Slice();
            }
        }

        /** Callers have asked region, way and k; the remainder keeps any other place inside the array. */
        Slice at(int region, int way, int k) {
            return slices[Math.floorMod((region * 2 + way) * WHOLES + k, slices.length)];
        }

        void workOut(Plan plan, int last) {
            workOutFirst(plan);
            for (int region = 1; region <= last && region < SLICED_REGIONS; region++) {
                for (int way = 0; way < 2; way++) {
                    for (int k = 0; k < WHOLES; k++) {
                        boundBySplits(region, way, k);
                    }
                }
            }
        }

        /** REGION 0 alone. */
        void workOutFirst(Plan plan) {
            for (int way = 0; way < 2; way++) {
                for (int k = 0; k < WHOLES; k++) {
                    boundByRows(plan, way, k);
                }
            }
        }

        private void boundByRows(Plan plan, int way, int k) {
            Slice slice = at(0, way, k);
            slice.fill();
            for (int i = 0; i < plan.allRows(); i++) {
                slice.capBy(plan.part(i, 1 - way), plan.part(i, 2) - plan.part(i, way) * k);
            }
            slice.emptyIfCrossed();
        }

        /**
         * The points of the slice of the region before it that pass that region by the other way. As regions are
         * convex, the pieces between whole numbers that do make one piece, so its ends are enough.
         */
        private void boundBySplits(int region, int way, int k) {
            Slice slice = at(region, way, k);
            Slice before = at(region - 1, way, k);
            slice.empty = true;
            if (before.empty) {
                return;
            }
            for (int j = 0; j < WHOLES; j++) {
                Slice other = at(region - 1, 1 - way, j);
                if (other.contains(k, 1)) {
                    from.put(j, 1);
                    slice.join(from, from);
                }
                if (j < LAST_WHOLE) {
                    joinBetween(slice, other, at(region - 1, 1 - way, j + 1), j, k);
                }
            }
            if (!slice.empty) {
                slice.meet(before);
                slice.emptyIfCrossed();
            }
        }

        private void joinBetween(Slice slice, Slice first, Slice second, int j, int k) {
            if (first.empty || second.empty) {
                return;
            }
            from.put(j, 1);
            to.put(j + 1, 1);
            if (narrow(first.low, second.low, 1, j, k) && narrow(first.high, second.high, -1, j, k)
                    && !to.isBelow(from)) {
                slice.join(from, to);
            }
        }

        /**
         * Leaves of what lies between from and to the part where the line from first (at j) to second (at j + 1) is
         * not above k (side 1) or not below it (side -1); false if nothing of it is there.
         */
        private boolean narrow(Ratio first, Ratio second, int side, int j, int k) {
            boolean firstHolds = side * (first.up - k * first.low) <= 0;
            boolean secondHolds = side * (second.up - k * second.low) <= 0;
            if (firstHolds == secondHolds) {
                return firstHolds;
            }
            long down = second.up * first.low - first.up * second.low;
            crossing.put(j * down + (k * first.low - first.up) * second.low, down);
            if (firstHolds && crossing.isBelow(to)) {
                to.copy(crossing);
            }
            if (secondHolds && from.isBelow(crossing)) {
                from.copy(crossing);
            }
            return true;
        }

        boolean contain(Plan plan, int region, int x, int y, int d) {
            if (region == 0) {
                return plan.holds(x, y, d, NONE);
            }
            return passes(region - 1, 0, x, y, d) && passes(region - 1, 1, x, y, d);
        }

        boolean passes(int region, int way, int x, int y, int d) {
            if (d < 1) {
                return false;
            }
            int z = way == 0 ? x : y;
            int other = way == 0 ? y : x;
            int k = z / d;
            int over = z % d;
            Slice first = at(region, way, k);
            if (over == 0) {
                return first.contains(other, d);
            }
            Slice second = at(region, way, k + 1);
            return !first.empty && !second.empty
                    && aboveLine(first.low, second.low, over, other, d) >= 0
                    && aboveLine(first.high, second.high, over, other, d) <= 0;
        }

        /** Above 0 if other by d lies above the line from first to second at over by d, below 0 if below it. */
        private static int aboveLine(Ratio first, Ratio second, int over, int other, int d) {
            long line = first.up * second.low * (d - over) + second.up * first.low * over;
            return Long.compare(other * first.low * second.low, line);
        }

        int filled(int region, int way) {
            int filled = 0;
            for (int k = 0; k < WHOLES; k++) {
                if (!at(region, way, k).empty) {
                    filled++;
                }
            }
            return filled;
        }

        /** The greatest HIGH less LOW of way 0. */
        void findLongest(int region, Ratio longest) {
            longest.put(0, 1);
            for (int k = 0; k < WHOLES; k++) {
                Slice slice = at(region, 0, k);
                if (!slice.empty) {
                    crossing.putDifference(slice.high, slice.low);
                    if (longest.isBelow(crossing)) {
                        longest.copy(crossing);
                    }
                }
            }
        }
    }

    /** Finds a CUT and its PROOF from the slices of REGION 0. */
    private static final class CutFinder {
        private final long[] found = new long[CUT_NUMBERS];
        private final Ratio times = new Ratio();

        boolean find(Plan plan, Regions regions, int way, int side, int k) {
            Slice first = regions.at(0, way, k);
            Slice second = regions.at(0, way, k + 1);
            if (first.empty || second.empty) {
                return false;
            }
            Ratio firstEnd = side == HIGH_SIDE ? first.high : first.low;
            Ratio secondEnd = side == HIGH_SIDE ? second.high : second.low;
            found[CUT_WAY] = way;
            found[CUT_AT] = k;
            putLine(firstEnd, secondEnd, side);
            putProof(plan, firstEnd, side, 0);
            putProof(plan, secondEnd, side, 1);
            return true;
        }

        private void putLine(Ratio first, Ratio second, int side) {
            int way = (int) found[CUT_WAY];
            long sign = side == HIGH_SIDE ? 1 : -1;
            long z = sign * (first.up * second.low - second.up * first.low);
            long other = sign * first.low * second.low;
            long bound = z * found[CUT_AT] + sign * first.up * second.low;
            long divisor = greatestDivisor(greatestDivisor(z, other), bound);
            if (divisor > 1) {
                z /= divisor;
                other /= divisor;
                bound /= divisor;
            }
            found[CUT_A] = way == 0 ? z : other;
            found[CUT_B] = way == 0 ? other : z;
            found[CUT_C] = bound;
        }

        /** Half 0 (ROW i, u, s) at k, half 1 (ROW j, v, t) at k + 1. */
        private void putProof(Plan plan, Ratio end, int side, int half) {
            int way = (int) found[CUT_WAY];
            int k = firstBounding(plan, end, side, half);
            long rowZ = plan.part(k, way);
            long rowOther = plan.part(k, 1 - way);
            long z = way == 0 ? found[CUT_A] : found[CUT_B];
            long other = way == 0 ? found[CUT_B] : found[CUT_A];
            long sign = half == 0 ? 1 : -1;
            found[CUT_I + half] = k;
            putTimes(half == 0 ? CUT_U : CUT_V, other, rowOther);
            putTimes(half == 0 ? CUT_S : CUT_T, sign * (z * rowOther - other * rowZ), rowOther);
        }

        private void putTimes(int place, long up, long low) {
            times.put(up, low);
            if (place >= 0 && place + 1 < found.length) {
                found[place] = times.up;
                found[place + 1] = times.low;
            }
        }

        /** There always is one: the slice ends there because of some ROW. */
        private int firstBounding(Plan plan, Ratio end, int side, int half) {
            int way = (int) found[CUT_WAY];
            long z = found[CUT_AT] + half;
            for (int k = 0; k < plan.allRows(); k++) {
                long across = plan.part(k, 1 - way);
                boolean bounds = side == HIGH_SIDE ? across > 0 : across < 0;
                if (bounds && across * end.up == (plan.part(k, 2) - plan.part(k, way) * z) * end.low) {
                    return k;
                }
            }
            return NONE;
        }
    }

    /** WHOLE POINTS, the least x first, then the least y. */
    private static final class WholePoints {
        private int size = 0;
        private int corners = 0;
        private final int[] xs = new int[WHOLES * WHOLES];
        private final int[] ys = new int[WHOLES * WHOLES];
        private final int[] chain = new int[2 * WHOLES * WHOLES];

        /** Those of REGION 0, as it would be without the ROW that is left out (NONE: with all). */
        void gather(Plan plan, int leftOut) {
            size = 0;
            for (int x = 0; x < WHOLES; x++) {
                for (int y = 0; y < WHOLES; y++) {
                    if (size >= 0 && size < xs.length && plan.holds(x, y, 1, leftOut)) {
                        xs[size] = x;
                        ys[size] = y;
                        size++;
                    }
                }
            }
        }

        boolean has(int i) {
            return i >= 0 && i < size && i < xs.length;
        }

        void tell(int i, Numbers numbers) {
            if (has(i)) {
                numbers.tell(xs[i]);
                numbers.tell(ys[i]);
            }
        }

        long sum(int i, long a, long b) {
            return has(i) ? a * xs[i] + b * ys[i] : 0;
        }

        int above(long a, long b, long c) {
            int above = 0;
            for (int i = 0; i < size; i++) {
                if (sum(i, a, b) > c) {
                    above++;
                }
            }
            return above;
        }

        int cutOff(Plan plan) {
            int cutOff = 0;
            for (int i = 0; i < size && i < xs.length; i++) {
                boolean isOff = false;
                for (int cut = 0; cut < plan.cutCount; cut++) {
                    isOff = isOff || plan.cutExcess(cut, xs[i], ys[i], 1) > 0;
                }
                if (isOff) {
                    cutOff++;
                }
            }
            return cutOff;
        }

        /** d times d times the square of how far point i is from (x by d, y by d). */
        long distance(int i, int x, int y, int d) {
            if (!has(i)) {
                return 0;
            }
            long across = (long) xs[i] * d - x;
            long along = (long) ys[i] * d - y;
            return across * across + along * along;
        }

        /** Goes out below all points and comes back above them; the first point ends both ways. */
        void findCorners() {
            corners = 0;
            for (int i = 0; i < size; i++) {
                link(i, 2);
            }
            int out = corners;
            for (int i = size - 2; i >= 0; i--) {
                link(i, out + 1);
            }
            if (corners > 1) {
                corners--;
            }
        }

        /** Corners that the way to point i leaves on its inside go, as long as so many as told are there. */
        private void link(int i, int least) {
            while (corners >= 2 && corners >= least && corners <= chain.length
                    && turn(chain[corners - 2], chain[corners - 1], i) <= 0) {
                corners--;
            }
            if (corners >= 0 && corners < chain.length) {
                chain[corners] = i;
                corners++;
            }
        }

        /** Above 0 if the way over three points goes to the left. */
        private int turn(int i, int j, int k) {
            if (!has(i) || !has(j) || !has(k)) {
                return 0;
            }
            return (xs[j] - xs[i]) * (ys[k] - ys[i]) - (ys[j] - ys[i]) * (xs[k] - xs[i]);
        }
    }

    /** The most of a x + b y over points that are offered one by one. */
    private static final class Most {
        private int a = 0;
        private int b = 0;
        private boolean found = false;
        private final Ratio best = new Ratio();
        private final Ratio value = new Ratio();

        void start(int newA, int newB) {
            a = newA;
            b = newB;
            found = false;
        }

        private void offer(long up, long low) {
            value.put(up, low);
            if (!found || best.isBelow(value)) {
                best.copy(value);
                found = true;
            }
        }

        /** REGION 0 is bounded: if it is not empty, it has a corner on two ROWS where the sum is greatest. */
        void overCorners(Plan plan) {
            for (int i = 0; i < plan.allRows(); i++) {
                for (int j = 0; j < i; j++) {
                    offerCorner(plan, i, j);
                }
            }
        }

        private void offerCorner(Plan plan, int i, int j) {
            int down = plan.part(i, 0) * plan.part(j, 1) - plan.part(j, 0) * plan.part(i, 1);
            int x = plan.part(i, 2) * plan.part(j, 1) - plan.part(j, 2) * plan.part(i, 1);
            int y = plan.part(i, 0) * plan.part(j, 2) - plan.part(j, 0) * plan.part(i, 2);
            int sign = down < 0 ? -1 : 1;
            if (down != 0 && plan.holds(sign * x, sign * y, sign * down, NONE)) {
                offer((long) a * x + (long) b * y, down);
            }
        }

        /** What passes by a way is made of its slices and what lies between: the ends of slices are enough. */
        void overSlices(Regions regions, int way) {
            for (int k = 0; k < WHOLES; k++) {
                Slice slice = regions.at(0, way, k);
                if (!slice.empty) {
                    offerEnd(slice.low, way, k);
                    offerEnd(slice.high, way, k);
                }
            }
        }

        private void offerEnd(Ratio end, int way, int k) {
            long z = way == 0 ? a : b;
            long other = way == 0 ? b : a;
            offer(z * k * end.low + other * end.up, end.low);
        }

        void overPoints(WholePoints points) {
            for (int i = 0; i < points.size; i++) {
                offer(points.sum(i, a, b), 1);
            }
        }
    }

    /** THE TEXT. */
    private static final class Signs {
        private static final String ROW_START = "+5x+5y<";

        private int size = 0;
        private final int[] signs = new int[MOST_SIGNS];

        int size() {
            return size;
        }

        void append(int sign) {
            if (size >= 0 && size < signs.length) {
                signs[size] = sign;
                size++;
            }
        }

        boolean shorten(int n) {
            if (n < 0 || n > size) {
                return false;
            }
            size = n;
            return true;
        }

        /** The sign at p; NONE, which fits nowhere, behind the last one. */
        int at(int p) {
            return p >= 0 && p < size && p < signs.length ? signs[p] : NONE;
        }

        boolean isDigit(int p) {
            return at(p) >= '0' && at(p) <= '9';
        }

        /**
         * The first place, from p on, where the signs are not as the form wants them (NONE: they are). In a form
         * + is + or -, 9 is a digit, 5 is a digit 0 .. 5, and any other sign is itself.
         */
        int misfit(int p, String form) {
            for (int i = 0; i < form.length(); i++) {
                if (!fits(p + i, form.charAt(i))) {
                    return p + i;
                }
            }
            return NONE;
        }

        private boolean fits(int p, char wanted) {
            switch (wanted) {
                case '+':
                    return at(p) == '+' || at(p) == '-';
                case '9':
                    return isDigit(p);
                case '5':
                    return isDigit(p) && at(p) <= '5';
                default:
                    return at(p) == wanted;
            }
        }

        int number(int p, int digits) {
            int number = 0;
            for (int i = 0; i < digits; i++) {
                number = number * 10 + at(p + i) - '0';
            }
            return number;
        }

        int signed(int p, int digits) {
            int number = number(p + 1, digits);
            return at(p) == '-' ? -number : number;
        }

        /** Reads the text as ROWS into a plan: the place of the sign that can't stand there, NONE if all can. */
        int readRows(Plan plan) {
            plan.rowCount = 0;
            int p = 0;
            for (int k = 0; k < MOST_ROWS && size > 0; k++) {
                int wrong = misfit(p, ROW_START);
                if (wrong != NONE) {
                    return wrong;
                }
                int bound = p + ROW_START.length();
                boolean below = at(bound) == '-';
                int first = below ? bound + 1 : bound;
                if (!isDigit(first)) {
                    return first;
                }
                int digits = isDigit(first + 1) ? 2 : 1;
                int c = number(first, digits);
                plan.append(signed(p, 1), signed(p + 3, 1), below ? -c : c);
                int after = first + digits;
                if (after == size) {
                    return NONE;
                }
                if (at(after) != ';' || k == MOST_ROWS - 1) {
                    return after;
                }
                p = after + 1;
            }
            return NONE;
        }

        /** The place of the sign that can't stand in A DAY, NONE if all can. */
        int dayFault() {
            int p = 0;
            for (int acts = 0; acts < MOST_SIGNS && p < size; acts++) {
                int wrong = misfit(p, actForm(p));
                if (wrong != NONE) {
                    return wrong;
                }
                p += actLength(p);
            }
            return NONE;
        }

        int actLength(int p) {
            return actForm(p).length();
        }

        /** By an ACT's first sign; another sign does not fit what is answered for it. */
        private String actForm(int p) {
            switch (at(p)) {
                case 'b':
                    return "b9+99";
                case 'd':
                    return "d9";
                case 's':
                    return "s999";
                default:
                    return "c";
            }
        }
    }

    /** The ROW OF NUMBERS. */
    private static final class Numbers {
        private int size = 0;
        private final long[] numbers = new long[2 * WHOLES * WHOLES];

        void clear() {
            size = 0;
        }

        void tell(long number) {
            if (size >= 0 && size < numbers.length) {
                numbers[size] = number;
                size++;
            }
        }

        void tellRatio(Ratio ratio) {
            tell(ratio.up);
            tell(ratio.low);
        }

        long at(int i) {
            return i >= 0 && i < size && i < numbers.length ? numbers[i] : 0;
        }
    }

    /** What can be undone: plans as they were, the latest last, and one more that is open for the change to come. */
    private static final class History {
        private int size = 0;
        private final Plan[] past = new Plan[MOST_UNDONE + 1];

        History() {
            for (int i = 0; i < past.length; i++) {
                past[i] = new Plan();
            }
        }

        void open(Plan now) {
            if (size >= 0 && size < past.length) {
                past[size].copy(now);
            }
        }

        void close() {
            if (size < MOST_UNDONE) {
                size++;
                return;
            }
            Plan oldest = past[0];
            for (int i = 0; i + 1 < past.length; i++) {
                past[i] = past[i + 1];
            }
            past[MOST_UNDONE] = oldest;
        }

        boolean back(Plan now) {
            if (size < 1 || size > past.length) {
                return false;
            }
            size--;
            now.copy(past[size]);
            return true;
        }

        void forget() {
            size = 0;
        }
    }

    /** Numbers drawn from a seed. */
    private static final class Draws {
        private int state = 0;

        void start(int seed) {
            state = seed;
        }

        int next(int n) {
            state = state * 1103515245 + 12345;
            return n < 1 ? 0 : (state >>> 16) % n;
        }
    }
}
