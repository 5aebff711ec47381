import java.util.Arrays;

/**
 * Partings of points on a ring that do not cross, and what is counted by them.
 * The words in capitals are those of the document, ../shared/DOC.md.
 */
public final class FreeParts {
    public static final int NONE = -1000000, BAD = -1000001, STATE = -1000002;

    private static final int FINDINGS = -1000010;
    private static final int NULL = 1, PLACE = 2, KIND = 3, SIZE = 4, STORE = 5;

    private static final int THING = 0, FREE = 1, ROWS = 2, NESTED = 3, PAIRED = 4;

    private static final int SHEETS = 8, MOST_ITEMS = 40, MISSING = -1;
    private static final int BYTES = 0, INTS = 1, LONGS = 2;
    private static final int SHELF = 10, MOST_POINTS = 10;
    private static final int MOST_TRACED = 16;
    private static final int SERIES = 8, MOST_NUMBERS = 8;
    private static final int EACH_PARTING = 0, FREE_PARTINGS = 1, ROWS_ALONE = 2;
    private static final int MOST_PAIRS = 10, MOST_X = 1000;
    private static final int MOST_WAYS = 4, MOST_STEPS = 12;
    private static final int LEAST_PRIME = 101, MOST_PRIME = 2000000000, USUAL_PRIME = 998244353;

    /** How many FREE ones there are of as many POINTS as the index says. */
    private static final int[] FREE_ONES = {1, 1, 2, 5, 14, 42, 132, 429, 1430, 4862, 16796};
    /** What a BLOCK of as many POINTS as the index says gives to WEIGHT. */
    private static final int[] WEIGHTS = {1, 1, -1, 2, -5, 14, -42, 132, -429, 1430, -4862};

    private final long p;
    private final long[][] items = new long[SHEETS][MOST_ITEMS];
    private final int[] lanes = new int[SHEETS];
    private final int[] sizes = new int[SHEETS];
    private final Thing[] shelf = new Thing[SHELF];
    private final Order order = new Order();
    private final int[] labels = new int[MOST_POINTS];
    private final int[] traced = new int[MOST_TRACED];
    private int tracedCount = 0;
    private final long[][] moments = new long[SERIES][MOST_NUMBERS + 1];
    private final int[] lengths = new int[SERIES];
    private final Cumulants cumulants;
    private final long[] left = new long[MOST_NUMBERS + 1];
    private final long[] right = new long[MOST_NUMBERS + 1];
    private final long[][] table = new long[MOST_NUMBERS / 2 + 1][MOST_NUMBERS / 2 + 1];
    private final long[][] pairings = new long[MOST_PAIRS + 1][MOST_PAIRS / 2 + 1];
    private final long[] distances = new long[MOST_STEPS + 2];
    private int latest = 0;

    public FreeParts(int p) {
        boolean fits = p >= LEAST_PRIME && p <= MOST_PRIME && isPrime(p);
        this.p = fits ? p : USUAL_PRIME;
        cumulants = new Cumulants(this.p);
        Arrays.fill(sizes, MISSING);
        Arrays.fill(lengths, 1);
        for (int s = 0; s < SERIES; s++) {
            moments[s][0] = 1;
        }
        countPairings(pairings);
    }

    // ---- sheets

    public int sheet(int sheet, int lane, int n) {
        if (noSheet(sheet) || lane < BYTES || lane > LONGS || n > MOST_ITEMS) {
            return BAD;
        }
        if (n < 0) {
            return finding(SIZE);
        }
        lanes[sheet] = lane;
        sizes[sheet] = n;
        Arrays.fill(items[sheet], 0L);
        return fine(n);
    }

    public long set(int sheet, int i, long v) {
        if (noSheet(sheet)) {
            return BAD;
        }
        if (sizes[sheet] == MISSING) {
            return finding(NULL);
        }
        if (i < 0 || i >= sizes[sheet]) {
            return finding(PLACE);
        }
        latest = 0;
        items[sheet][i] = lowestBits(lanes[sheet], v);
        return items[sheet][i];
    }

    public int copy(int a, int i, int b, int j, int n) {
        if (noSheet(a) || noSheet(b)) {
            return BAD;
        }
        if (sizes[a] == MISSING || sizes[b] == MISSING) {
            return finding(NULL);
        }
        if (lanes[a] != lanes[b]) {
            return finding(STORE);
        }
        if (noRun(a, i, n) || noRun(b, j, n)) {
            return finding(PLACE);
        }
        System.arraycopy(items[a], i, items[b], j, n);
        return fine(n);
    }

    public int drop(int sheet) {
        if (noSheet(sheet)) {
            return BAD;
        }
        if (sizes[sheet] == MISSING) {
            return finding(NULL);
        }
        int had = sizes[sheet];
        sizes[sheet] = MISSING;
        return fine(had);
    }

    // ---- things

    public int part(int place, int sheet, int i, int n) {
        if (noPlace(place) || noSheet(sheet) || n < 1 || n > MOST_POINTS) {
            return BAD;
        }
        if (sizes[sheet] == MISSING) {
            return finding(NULL);
        }
        if (noRun(sheet, i, n)) {
            return finding(PLACE);
        }
        labelLikeItems(items[sheet], i, n);
        return shelve(place, new Thing(labels, n));
    }

    public int nth(int place, int n, int i) {
        if (noPlace(place) || n < 1 || n > MOST_POINTS) {
            return BAD;
        }
        if (i < 0 || i >= FREE_ONES[n]) {
            return fine(NONE);
        }
        order.tell(n, i, labels);
        return shelve(place, new Thing(labels, n));
    }

    public int both(int to, int a, int b, int how) {
        if (noPlace(to) || noPlace(a) || noPlace(b) || how < 0 || how > 1) {
            return BAD;
        }
        Thing one = shelf[a];
        Thing other = shelf[b];
        if (one == null) {
            return finding(NULL);
        }
        if (!one.isOf(FREE)) {
            return finding(KIND);
        }
        if (other == null) {
            return finding(NULL);
        }
        if (!other.isOf(FREE)) {
            return finding(KIND);
        }
        if (one.n != other.n) {
            return BAD;
        }
        return shelve(to, how == 0 ? meetOf(one, other) : joinOf(one, other));
    }

    public int turn(int to, int place, int how) {
        if (noPlace(to) || noPlace(place) || how < 0 || how > 1) {
            return BAD;
        }
        Thing thing = shelf[place];
        if (thing == null) {
            return finding(NULL);
        }
        if (how == 1) {
            return shelve(to, turnedBy(thing, 1));
        }
        if (!thing.isOf(FREE)) {
            return finding(KIND);
        }
        return shelve(to, complementOf(thing));
    }

    public int clear(int place) {
        if (noPlace(place)) {
            return BAD;
        }
        boolean was = shelf[place] != null;
        shelf[place] = null;
        return was ? 1 : 0;
    }

    public int kind(int place) {
        if (noPlace(place)) {
            return BAD;
        }
        Thing thing = shelf[place];
        return thing == null ? finding(NULL) : fine(thing.kind);
    }

    public int is(int place, int kind) {
        if (noPlace(place) || kind < THING || kind > PAIRED) {
            return BAD;
        }
        Thing thing = shelf[place];
        return thing != null && thing.isOf(kind) ? 1 : 0;
    }

    public int as(int place, int kind) {
        if (noPlace(place) || kind < THING || kind > PAIRED) {
            return BAD;
        }
        Thing thing = shelf[place];
        if (thing == null) {
            return finding(NULL);
        }
        return thing.isOf(kind) ? fine(thing.blocks) : finding(KIND);
    }

    public int ask(int place, int what) {
        if (noPlace(place) || what < 0 || what > 1) {
            return BAD;
        }
        tracedCount = 0;
        Thing thing = shelf[place];
        if (thing == null) {
            return finding(NULL);
        }
        return fine(what == 0 ? sizeOf(thing) : markOf(thing));
    }

    public int trace(int i) {
        return i >= 0 && i < tracedCount && i < MOST_TRACED ? traced[i] : NONE;
    }

    public int block(int place, int point) {
        if (noPlace(place)) {
            return BAD;
        }
        Thing thing = shelf[place];
        if (thing == null) {
            return finding(NULL);
        }
        if (point < 0 || point >= thing.n) {
            return BAD;
        }
        return fine(thing.blockOf[point]);
    }

    public int told(int place, int what) {
        if (noPlace(place) || what < 0 || what > 3) {
            return BAD;
        }
        Thing thing = shelf[place];
        if (thing == null) {
            return finding(NULL);
        }
        if (!thing.isOf(FREE)) {
            return finding(KIND);
        }
        switch (what) {
            case 0:
                return fine(order.placeOf(thing));
            case 1:
                return fine(thing.productOver(WEIGHTS));
            case 2:
                return fine(thing.productOver(FREE_ONES));
            default:
                // What lies over a FREE one is turned upside down by the COMPLEMENT.
                return fine(complementOf(thing).productOver(FREE_ONES));
        }
    }

    public int finer(int a, int b) {
        if (noPlace(a) || noPlace(b)) {
            return BAD;
        }
        Thing one = shelf[a];
        Thing other = shelf[b];
        if (one == null || other == null) {
            return finding(NULL);
        }
        if (one.n != other.n) {
            return BAD;
        }
        return fine(one.isFinerThan(other) ? 1 : 0);
    }

    public int handles(int place) {
        if (noPlace(place)) {
            return BAD;
        }
        Thing thing = shelf[place];
        if (thing == null) {
            return finding(NULL);
        }
        return thing.pairs ? fine(handlesOf(thing)) : finding(KIND);
    }

    // ---- series

    public int series(int to, int sheet, int i, int n, int sort) {
        if (noSeries(to) || noSheet(sheet) || n < 1 || n > MOST_NUMBERS || noSort(sort)) {
            return BAD;
        }
        if (sizes[sheet] == MISSING) {
            return finding(NULL);
        }
        if (noRun(sheet, i, n)) {
            return finding(PLACE);
        }
        for (int k = 1; k <= n; k++) {
            left[k] = Math.floorMod(items[sheet][i + k - 1], p);
        }
        lengths[to] = n;
        if (sort == NONE) {
            System.arraycopy(left, 1, moments[to], 1, n);
        } else {
            cumulants.toMoments(sort, n, left, moments[to]);
        }
        return fine(n);
    }

    public long number(int series, int sort, int k) {
        if (noSeries(series) || noSort(sort) || k < 1 || k > lengths[series]) {
            return BAD;
        }
        if (sort == NONE) {
            return moments[series][k];
        }
        cumulants.ofMoments(sort, k, moments[series], left);
        return left[k];
    }

    public int join(int to, int a, int b, int how) {
        if (noSeries(to) || noSeries(a) || noSeries(b) || how < 0 || how > 3) {
            return BAD;
        }
        int n = Math.min(lengths[a], lengths[b]);
        int sort = how == 3 ? FREE_PARTINGS : how;
        cumulants.ofMoments(sort, n, moments[a], left);
        cumulants.ofMoments(sort, n, moments[b], right);
        if (how == 3) {
            cumulants.multiply(n, left, right);
        } else {
            for (int k = 1; k <= n; k++) {
                left[k] = (left[k] + right[k]) % p;
            }
        }
        lengths[to] = n;
        cumulants.toMoments(sort, n, left, moments[to]);
        return n;
    }

    public int change(int to, int from, int how, int c) {
        if (noSeries(to) || noSeries(from) || how < 0 || how > 1 || c < 0 || c >= p) {
            return BAD;
        }
        int n = lengths[from];
        lengths[to] = n;
        if (how == 0) {
            multiplyByPowers(n, moments[from], moments[to], c, c);
        } else {
            cumulants.ofMoments(FREE_PARTINGS, n, moments[from], left);
            multiplyByPowers(n, left, left, 1, c);
            cumulants.toMoments(FREE_PARTINGS, n, left, moments[to]);
        }
        return n;
    }

    public long hankel(int series, int k) {
        if (noSeries(series) || k < 0 || k > lengths[series] / 2) {
            return BAD;
        }
        for (int i = 0; i <= k; i++) {
            System.arraycopy(moments[series], i, table[i], 0, k + 1);
        }
        return determinant(k + 1);
    }

    public int same(int a, int b) {
        if (noSeries(a) || noSeries(b)) {
            return BAD;
        }
        if (lengths[a] != lengths[b]) {
            return 0;
        }
        for (int k = 1; k <= lengths[a]; k++) {
            if (moments[a][k] != moments[b][k]) {
                return 0;
            }
        }
        return 1;
    }

    // ---- counted

    public long genus(int h, int g) {
        if (noPairs(h) || g < 0) {
            return BAD;
        }
        return g > MOST_PAIRS / 2 ? 0 : pairings[h][g];
    }

    public long mean(int h, int x) {
        if (noPairs(h) || x < 0 || x > MOST_X) {
            return BAD;
        }
        long sum = 0;
        for (int g = 0; g <= h / 2; g++) {
            sum = (sum + pairings[h][g] % p * power(x, h + 1 - 2 * g)) % p;
        }
        return sum;
    }

    public long walks(int r, int n) {
        if (r < 1 || r > MOST_WAYS || n < 0 || n > MOST_STEPS) {
            return BAD;
        }
        Arrays.fill(distances, 0L);
        distances[0] = 1;
        for (int step = 0; step < n; step++) {
            walkOneStep(2 * r);
        }
        return distances[0];
    }

    public int count(int what) {
        switch (what) {
            case 0:
                return countSheets();
            case 1:
                return countThings(THING);
            case 2:
                return countThings(FREE);
            case 3:
                return countThings(ROWS);
            case 4:
                return countThings(NESTED);
            case 5:
                return countThings(PAIRED);
            case 6:
                return (int) p;
            default:
                return BAD;
        }
    }

    public int status() {
        return latest;
    }

    // ---- what is refused, and what is found

    private static boolean noSheet(int sheet) {
        return sheet < 0 || sheet >= SHEETS;
    }

    private static boolean noPlace(int place) {
        return place < 0 || place >= SHELF;
    }

    private static boolean noSeries(int series) {
        return series < 0 || series >= SERIES;
    }

    private static boolean noSort(int sort) {
        return sort != NONE && (sort < EACH_PARTING || sort > ROWS_ALONE);
    }

    private static boolean noPairs(int h) {
        return h < 1 || h > MOST_PAIRS;
    }

    /** Whether a SHEET that is there lacks n ITEMS from i on; i + n could be beyond an int. */
    private boolean noRun(int sheet, int i, int n) {
        return i < 0 || n < 0 || i > sizes[sheet] - n;
    }

    private int finding(int number) {
        latest = number;
        return FINDINGS - number;
    }

    private int fine(int answer) {
        latest = 0;
        return answer;
    }

    // ---- partings

    private static long lowestBits(int lane, long v) {
        if (lane == BYTES) {
            return (byte) v;
        }
        return lane == INTS ? (int) v : v;
    }

    private void labelLikeItems(long[] row, int from, int n) {
        for (int k = 0; k < n; k++) {
            int like = 0;
            while (like < k && row[from + like] != row[from + k]) {
                like++;
            }
            labels[k] = like;
        }
    }

    private int shelve(int place, Thing thing) {
        shelf[place] = thing;
        return fine(thing.kind);
    }

    private Thing meetOf(Thing one, Thing other) {
        for (int k = 0; k < one.n; k++) {
            labels[k] = one.blockOf[k] * MOST_POINTS + other.blockOf[k];
        }
        return new Thing(labels, one.n);
    }

    /**
     * The COMPLEMENT turns the lattice upside down, so the JOIN is the MEET of
     * the COMPLEMENTS, led back: the COMPLEMENT twice is a turn by one.
     */
    private Thing joinOf(Thing one, Thing other) {
        Thing meet = meetOf(complementOf(one), complementOf(other));
        return turnedBy(complementOf(meet), meet.n - 1);
    }

    private Thing turnedBy(Thing thing, int steps) {
        for (int k = 0; k < thing.n; k++) {
            int from = k + steps;
            labels[k] = thing.blockOf[from < thing.n ? from : from - thing.n];
        }
        return new Thing(labels, thing.n);
    }

    private Thing complementOf(Thing thing) {
        thing.labelRings(labels);
        return new Thing(labels, thing.n);
    }

    private int handlesOf(Thing thing) {
        int rings = thing.labelRings(labels);
        return (thing.n / 2 + 1 - rings) / 2;
    }

    private int countSheets() {
        int there = 0;
        for (int size : sizes) {
            if (size != MISSING) {
                there++;
            }
        }
        return there;
    }

    private int countThings(int kind) {
        int there = 0;
        for (Thing thing : shelf) {
            if (thing != null && thing.isOf(kind)) {
                there++;
            }
        }
        return there;
    }

    // ---- asks, by the numbers of their BODIES

    private int sizeOf(Thing thing) {
        switch (thing.kind) {
            case FREE:
                return body11(thing);
            case ROWS:
                return body12(thing);
            case NESTED:
                return body13(thing);
            case PAIRED:
                return body14(thing);
            default:
                return body10(thing);
        }
    }

    private int markOf(Thing thing) {
        if (thing.isOf(FREE)) {
            return body21(thing);
        }
        return thing.kind == PAIRED ? body22(thing) : body20(thing);
    }

    private void leaveTrace(int body) {
        if (tracedCount < MOST_TRACED) {
            traced[tracedCount] = body;
            tracedCount++;
        }
    }

    private int body10(Thing thing) {
        leaveTrace(10);
        return thing.n;
    }

    private int body11(Thing thing) {
        leaveTrace(11);
        return body10(thing) + thing.blocks;
    }

    private int body12(Thing thing) {
        leaveTrace(12);
        return 2 * body11(thing);
    }

    /** MARK, asked anew of a NESTED one, begins with BODY 21. */
    private int body13(Thing thing) {
        leaveTrace(13);
        int size = body11(thing);
        return size + body21(thing);
    }

    private int body14(Thing thing) {
        leaveTrace(14);
        return body10(thing) * handlesOf(thing);
    }

    private int body20(Thing thing) {
        leaveTrace(20);
        return thing.blocks;
    }

    private int body21(Thing thing) {
        leaveTrace(21);
        return body20(thing) + 100;
    }

    /** SIZE, asked anew of a PAIRED one, begins with BODY 14. */
    private int body22(Thing thing) {
        leaveTrace(22);
        int mark = body20(thing);
        return mark + body14(thing);
    }

    // ---- numbers modulo p

    private static boolean isPrime(int n) {
        if (n % 2 == 0 || n % 3 == 0) {
            return false;
        }
        for (int d = 5; (long) d * d <= n; d += 6) {
            if (n % d == 0 || n % (d + 2) == 0) {
                return false;
            }
        }
        return true;
    }

    private long power(long base, long exponent) {
        long result = 1;
        long square = base % p;
        for (long rest = exponent; rest > 0; rest /= 2) {
            if (rest % 2 == 1) {
                result = result * square % p;
            }
            square = square * square % p;
        }
        return result;
    }

    /** Number k of a row times first times c to the power k - 1, k from 1 to n. */
    private void multiplyByPowers(int n, long[] from, long[] to, long first, long c) {
        long factor = first;
        for (int k = 1; k <= n; k++) {
            to[k] = from[k] * factor % p;
            factor = factor * c % p;
        }
    }

    /** Of the first rows and columns of the table, which is used up. */
    private long determinant(int size) {
        long product = 1;
        for (int c = 0; c < size; c++) {
            int pivot = c;
            while (pivot < size && table[pivot][c] == 0) {
                pivot++;
            }
            if (pivot == size) {
                return 0;
            }
            if (pivot != c) {
                swapRows(pivot, c, size);
                product = (p - product) % p;
            }
            product = product * table[c][c] % p;
            clearColumnBelow(c, size);
        }
        return product;
    }

    private void swapRows(int a, int b, int size) {
        for (int c = 0; c < size; c++) {
            long kept = table[a][c];
            table[a][c] = table[b][c];
            table[b][c] = kept;
        }
    }

    private void clearColumnBelow(int c, int size) {
        long inverse = power(table[c][c], p - 2);
        for (int r = c + 1; r < size; r++) {
            long times = p - table[r][c] * inverse % p;
            for (int k = c; k < size; k++) {
                table[r][k] = (table[r][k] + times * table[c][k]) % p;
            }
        }
    }

    // ---- counted things

    /** Pairings of 2 h POINTS by HANDLES, by the recurrence of Harer and Zagier. */
    private static void countPairings(long[][] pairings) {
        pairings[0][0] = 1;
        for (int h = 1; h <= MOST_PAIRS; h++) {
            for (int g = 0; g <= h / 2; g++) {
                long flat = 2L * (2 * h - 1) * pairings[h - 1][g];
                long raised = 0;
                if (g > 0 && h > 1) {
                    raised = (2L * h - 1) * (h - 1) * (2 * h - 3) * pairings[h - 2][g - 1];
                }
                pairings[h][g] = (flat + raised) / (h + 1);
            }
        }
    }

    /** From the root all ways lead away, from any other knot all but one. */
    private void walkOneStep(int ways) {
        long fromNearer = 0;
        for (int d = 0; d <= MOST_STEPS; d++) {
            long here = distances[d];
            distances[d] = fromNearer + distances[d + 1];
            fromNearer = here * (d == 0 ? ways : ways - 1);
        }
    }

    /** A parting of POINTS; it never changes. */
    private static final class Thing {
        final int n;
        final int blocks;
        final int[] blockOf = new int[MOST_POINTS];
        final boolean pairs;
        final int kind;

        /** Together are the POINTS with like labels. */
        Thing(int[] labels, int points) {
            n = Math.max(1, Math.min(points, MOST_POINTS));
            blocks = numberBlocks(labels, n, blockOf);
            pairs = allInPairs(blockOf, n, blocks);
            kind = kindToTell(blockOf, n, pairs);
        }

        private static int numberBlocks(int[] labels, int n, int[] blockOf) {
            int fresh = 0;
            for (int k = 0; k < n; k++) {
                int like = 0;
                while (like < k && labels[like] != labels[k]) {
                    like++;
                }
                if (like < k) {
                    blockOf[k] = blockOf[like];
                } else {
                    blockOf[k] = fresh;
                    fresh++;
                }
            }
            return fresh;
        }

        private static boolean allInPairs(int[] blockOf, int n, int blocks) {
            for (int b = 0; b < blocks; b++) {
                if (pointsIn(blockOf, n, b) != 2) {
                    return false;
                }
            }
            return true;
        }

        private static int pointsIn(int[] blockOf, int n, int block) {
            int points = 0;
            for (int k = 0; k < n; k++) {
                if (blockOf[k] == block) {
                    points++;
                }
            }
            return points;
        }

        private static int kindToTell(int[] blockOf, int n, boolean pairs) {
            if (inRows(blockOf, n)) {
                return ROWS;
            }
            if (crossesItself(blockOf, n)) {
                return pairs ? PAIRED : THING;
            }
            return pairs ? NESTED : FREE;
        }

        /** As BLOCKS are numbered by their least POINTS, going back breaks a row. */
        private static boolean inRows(int[] blockOf, int n) {
            for (int k = 1; k < n; k++) {
                if (blockOf[k] < blockOf[k - 1]) {
                    return false;
                }
            }
            return true;
        }

        private static boolean crossesItself(int[] blockOf, int n) {
            for (int a = 0; a < n; a++) {
                for (int c = a + 2; c < n; c++) {
                    if (blockOf[a] == blockOf[c] && isCrossed(blockOf, n, a, c)) {
                        return true;
                    }
                }
            }
            return false;
        }

        /** Whether another BLOCK has a POINT between a and c, and one behind c. */
        private static boolean isCrossed(int[] blockOf, int n, int a, int c) {
            for (int b = a + 1; b < c; b++) {
                for (int d = c + 1; d < n; d++) {
                    if (blockOf[b] == blockOf[d] && blockOf[b] != blockOf[a]) {
                        return true;
                    }
                }
            }
            return false;
        }

        /** By the KIND as it is told; ROWS, NESTED ones are FREE, and all are THINGS. */
        boolean isOf(int asked) {
            if (asked == FREE) {
                return kind == FREE || kind == ROWS || kind == NESTED;
            }
            return asked == THING || asked == kind;
        }

        boolean isFinerThan(Thing other) {
            int common = Math.min(n, other.n);
            for (int k = 0; k < common; k++) {
                for (int q = 0; q < k; q++) {
                    if (blockOf[q] == blockOf[k] && other.blockOf[q] != other.blockOf[k]) {
                        return false;
                    }
                }
            }
            return true;
        }

        /** The product over the BLOCKS of what a row has for as many POINTS. */
        int productOver(int[] row) {
            int product = 1;
            for (int b = 0; b < blocks; b++) {
                product *= row[pointsIn(blockOf, n, b)];
            }
            return product;
        }

        /**
         * Goes from k' over k + 1 to the POINT ahead of that in its BLOCK, round,
         * and labels each k' by the ring so gone: how many rings. Those of a FREE
         * one are its COMPLEMENT's BLOCKS. With pairs it is the way from k to the
         * POINT behind its partner, begun one step later: as many rings.
         */
        int labelRings(int[] labels) {
            Arrays.fill(labels, MISSING);
            int rings = 0;
            for (int k = 0; k < n; k++) {
                if (labels[k] == MISSING) {
                    labelRing(labels, k, rings);
                    rings++;
                }
            }
            return rings;
        }

        private void labelRing(int[] labels, int first, int ring) {
            int at = first;
            for (int step = 0; step < n && labels[at] == MISSING; step++) {
                labels[at] = ring;
                at = aheadInBlock(at + 1 < n ? at + 1 : 0);
            }
        }

        private int aheadInBlock(int point) {
            int at = point;
            for (int step = 0; step < n; step++) {
                at = at > 0 ? at - 1 : n - 1;
                if (blockOf[at] == blockOf[point]) {
                    return at;
                }
            }
            return point;
        }
    }

    /**
     * FREE ones in ORDER. Going over the POINTS, BLOCKS that may still get one
     * are open; a POINT of an open BLOCK shuts those that were opened later.
     */
    private static final class Order {
        /** With as many POINTS to come, as many BLOCKS open: how many ways to go on. */
        private final int[][] ways = new int[MOST_POINTS + 1][MOST_POINTS + 1];
        private final int[] open = new int[MOST_POINTS];

        Order() {
            Arrays.fill(ways[0], 1);
            for (int left = 1; left <= MOST_POINTS; left++) {
                for (int opened = 0; opened <= MOST_POINTS - left; opened++) {
                    int sum = 0;
                    for (int then = 1; then <= opened + 1; then++) {
                        sum += ways[left - 1][then];
                    }
                    ways[left][opened] = sum;
                }
            }
        }

        int placeOf(Thing thing) {
            int place = 0;
            int opened = 0;
            for (int k = 0; k < thing.n; k++) {
                int at = 0;
                while (at < opened && open[at] != thing.blockOf[k]) {
                    at++;
                    place += ways[thing.n - 1 - k][at];
                }
                open[at] = thing.blockOf[k];
                opened = at + 1;
            }
            return place;
        }

        void tell(int n, int place, int[] blockOf) {
            int rest = place;
            int opened = 0;
            int fresh = 0;
            for (int k = 0; k < n; k++) {
                int at = 0;
                while (at < opened && rest >= ways[n - 1 - k][at + 1]) {
                    at++;
                    rest -= ways[n - 1 - k][at];
                }
                if (at == opened) {
                    open[at] = fresh;
                    fresh++;
                }
                blockOf[k] = open[at];
                opened = at + 1;
            }
        }
    }

    /** CUMULANTS and MOMENTS, in rows from number 1 on, both ways. */
    private static final class Cumulants {
        private final long p;
        private final Powers powers;
        private final Powers otherPowers;

        Cumulants(long p) {
            this.p = p;
            powers = new Powers(p);
            otherPowers = new Powers(p);
        }

        void toMoments(int sort, int n, long[] from, long[] to) {
            powers.begin(1);
            for (int k = 1; k <= n; k++) {
                to[k] = (from[k] + sumOfFiner(sort, k, from, to)) % p;
                keepPowers(sort, k, to[k]);
            }
        }

        void ofMoments(int sort, int n, long[] from, long[] to) {
            powers.begin(1);
            for (int k = 1; k <= n; k++) {
                to[k] = (from[k] + p - sumOfFiner(sort, k, to, from)) % p;
                keepPowers(sort, k, from[k]);
            }
        }

        /** Powers cost most of the work, and sort 1 alone looks at them. */
        private void keepPowers(int sort, int k, long moment) {
            if (sort == FREE_PARTINGS) {
                powers.add(k, moment);
            }
        }

        /**
         * What partings of n POINTS give but that into one BLOCK: with s POINTS
         * in the BLOCK of POINT 0, the others fill what this BLOCK leaves.
         */
        private long sumOfFiner(int sort, int n, long[] cumulants, long[] moments) {
            long sum = 0;
            long choices = 1;
            for (int s = 1; s < n; s++) {
                long others = sort == FREE_PARTINGS ? powers.at(s, n - s) : moments[n - s];
                if (sort == EACH_PARTING) {
                    others = others * choices % p;
                }
                sum = (sum + cumulants[s] * others) % p;
                choices = choices * (n - s) / s;
            }
            return sum;
        }

        /**
         * CUMULANTS of sort 1 of the PRODUCT come in place of the one's. Let H(n)
         * be the sum over those FREE partings of n POINTS that have POINT 0 alone,
         * its own factor left out, and G(n) likewise, with the COMPLEMENT's last
         * POINT alone. By the BLOCK of POINT 0, and of the COMPLEMENT's last POINT:
         * G = z times the sum of one(s) H^(s - 1), H = z times the sum of
         * other(s) G^(s - 1), and the PRODUCT's are the sum of one(s) H^s.
         */
        void multiply(int n, long[] one, long[] other) {
            Powers ofG = powers;
            Powers ofH = otherPowers;
            ofG.begin(0);
            ofH.begin(0);
            for (int k = 1; k <= n; k++) {
                long g = ofH.weighted(one, k, 1);
                long h = ofG.weighted(other, k, 1);
                ofG.add(k, g);
                ofH.add(k, h);
            }
            // From the end, as number k needs the one's numbers up to k alone.
            for (int k = n; k >= 1; k--) {
                one[k] = ofH.weighted(one, k, 0);
            }
        }
    }

    /** The powers of a row's series, modulo p, as far as the row is known. */
    private static final class Powers {
        private final long p;
        private final long[][] rows = new long[MOST_NUMBERS + 1][MOST_NUMBERS + 1];

        Powers(long p) {
            this.p = p;
            rows[0][0] = 1;
        }

        /** Number 0 of the series is 0 or 1, and so is that of its powers. */
        void begin(long first) {
            for (int e = 1; e <= MOST_NUMBERS; e++) {
                rows[e][0] = first;
            }
        }

        /** Numbers up to k - 1 are known; the series' number k is v. */
        void add(int k, long v) {
            rows[1][k] = v;
            for (int e = 2; e <= MOST_NUMBERS; e++) {
                long sum = 0;
                for (int i = 0; i <= k; i++) {
                    sum = (sum + rows[e - 1][i] * rows[1][k - i]) % p;
                }
                rows[e][k] = sum;
            }
        }

        /** Number k of the series to the power e. */
        long at(int e, int k) {
            return rows[e][k];
        }

        /** The sum of factors(s) times number k - less of the power s - less, s from 1 to k. */
        long weighted(long[] factors, int k, int less) {
            long sum = 0;
            for (int s = 1; s <= k; s++) {
                sum = (sum + factors[s] * rows[s - less][k - less]) % p;
            }
            return sum;
        }
    }
}
