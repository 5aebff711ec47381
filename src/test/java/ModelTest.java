import java.math.BigInteger;
import java.util.ArrayList;
import java.util.Arrays;
import java.util.HashMap;
import java.util.List;
import java.util.Map;
import java.util.Random;

/**
 * Long runs of random calls (from fixed seeds), and all partings of few points,
 * against a model that does what the document's words say by listing and trying.
 */
public final class ModelTest {
    private static final int NONE = -1000000, BAD = -1000001;
    private static final int RUNS = 1500, CALLS = 512, MOST_AT_ONCE = 14;

    private static int wrong = 0;
    private static long seen = 0;

    private static boolean due(String call, long got, long want) {
        seen++;
        if (got == want) {
            return true;
        }
        wrong++;
        if (wrong <= 20) {
            System.out.println(call + " answered " + got + ", due is " + want);
        }
        return false;
    }

    public static void main(String[] args) {
        for (int n = 1; n <= 6; n++) {
            allPartings(n);
        }
        for (int n = 1; n <= 6; n++) {
            latticeOf(n);
        }
        allInOrder();
        counted();
        for (int seed = 0; seed < RUNS && wrong == 0; seed++) {
            randomRun(seed);
        }
        System.out.println(seen + " answers seen, " + wrong + " not as due");
        if (wrong != 0) {
            System.exit(1);
        }
    }

    // ---- partings, by listing them

    private static final Map<Integer, List<int[]>> EACH = new HashMap<>();
    private static final Map<Integer, List<int[]>> FREE = new HashMap<>();

    private static List<int[]> each(int n) {
        return EACH.computeIfAbsent(n, m -> {
            List<int[]> all = new ArrayList<>();
            grow(new int[m], 0, 0, all);
            return all;
        });
    }

    private static void grow(int[] row, int at, int fresh, List<int[]> all) {
        if (at == row.length) {
            all.add(row.clone());
            return;
        }
        for (int b = 0; b <= fresh; b++) {
            row[at] = b;
            grow(row, at + 1, Math.max(fresh, b + 1), all);
        }
    }

    private static List<int[]> free(int n) {
        return FREE.computeIfAbsent(n, m -> {
            List<int[]> all = new ArrayList<>();
            for (int[] row : each(m)) {
                if (isFree(row)) {
                    all.add(row);
                }
            }
            return all;
        });
    }

    private static boolean isFree(int[] row) {
        int n = row.length;
        for (int a = 0; a < n; a++) {
            for (int b = a + 1; b < n; b++) {
                for (int c = b + 1; c < n && row[a] != row[b]; c++) {
                    for (int d = c + 1; d < n && row[a] == row[c]; d++) {
                        if (row[b] == row[d]) {
                            return false;
                        }
                    }
                }
            }
        }
        return true;
    }

    private static int[] numbered(long[] labels) {
        int[] row = new int[labels.length];
        Map<Long, Integer> numbers = new HashMap<>();
        for (int k = 0; k < row.length; k++) {
            numbers.putIfAbsent(labels[k], numbers.size());
            row[k] = numbers.get(labels[k]);
        }
        return row;
    }

    private static int[] sizes(int[] row) {
        int[] sizes = new int[Arrays.stream(row).max().getAsInt() + 1];
        for (int b : row) {
            sizes[b]++;
        }
        return sizes;
    }

    private static boolean isPairs(int[] row) {
        return Arrays.stream(sizes(row)).allMatch(s -> s == 2);
    }

    private static boolean isRows(int[] row) {
        int[] sizes = sizes(row);
        for (int b = 0; b < sizes.length; b++) {
            int first = 0;
            while (row[first] != b) {
                first++;
            }
            for (int k = first; k < first + sizes[b]; k++) {
                if (row[k] != b) {
                    return false;
                }
            }
        }
        return true;
    }

    private static int kindOf(int[] row) {
        if (isFree(row)) {
            return isRows(row) ? 2 : isPairs(row) ? 3 : 1;
        }
        return isPairs(row) ? 4 : 0;
    }

    private static boolean isOf(int told, int kind) {
        return kind == 0 || kind == told || kind == 1 && (told == 2 || told == 3);
    }

    private static boolean finer(int[] a, int[] b) {
        for (int k = 0; k < a.length; k++) {
            for (int q = 0; q < k; q++) {
                if (a[k] == a[q] && b[k] != b[q]) {
                    return false;
                }
            }
        }
        return true;
    }

    private static int[] meet(int[] a, int[] b) {
        long[] labels = new long[a.length];
        for (int k = 0; k < a.length; k++) {
            labels[k] = 100L * a[k] + b[k];
        }
        return numbered(labels);
    }

    /** Of all FREE ones of which both are FINER, the one that is FINER than all of these. */
    private static int[] join(int[] a, int[] b) {
        List<int[]> over = new ArrayList<>();
        for (int[] row : free(a.length)) {
            if (finer(a, row) && finer(b, row)) {
                over.add(row);
            }
        }
        int[] finest = over.get(0);
        for (int[] row : over) {
            finest = finer(row, finest) ? row : finest;
        }
        return finest;
    }

    private static final Map<String, int[]> COMPLEMENTS = new HashMap<>();

    /** Of all that fit in between, the coarsest: the one with the fewest BLOCKS. */
    private static int[] complement(int[] row) {
        return COMPLEMENTS.computeIfAbsent(Arrays.toString(row), text -> {
            int[] best = null;
            for (int[] other : free(row.length)) {
                if ((best == null || sizes(other).length < sizes(best).length) && fitsBetween(row, other)) {
                    best = other;
                }
            }
            return best;
        });
    }

    /** No parting of both kinds of POINTS crosses, by a stack of BLOCKS that are open. */
    private static boolean fitsBetween(int[] row, int[] other) {
        int n = row.length;
        int[] stack = new int[2 * n];
        int depth = 0;
        boolean[] begun = new boolean[200];
        for (int k = 0; k < 2 * n; k++) {
            int block = k % 2 == 0 ? row[k / 2] : 100 + other[k / 2];
            if (begun[block]) {
                while (depth > 0 && stack[depth - 1] != block) {
                    depth--;
                }
                if (depth == 0) {
                    return false;
                }
            } else {
                begun[block] = true;
                stack[depth++] = block;
            }
        }
        return true;
    }

    private static int[] turned(int[] row) {
        long[] labels = new long[row.length];
        for (int k = 0; k < row.length; k++) {
            labels[k == 0 ? row.length - 1 : k - 1] = row[k];
        }
        return numbered(labels);
    }

    private static int weight(int[] row) {
        int[] numbers = {1, 1, 2, 5, 14, 42, 132, 429, 1430, 4862};
        int weight = 1;
        for (int s : sizes(row)) {
            weight *= (s % 2 == 1 ? 1 : -1) * numbers[s - 1];
        }
        return weight;
    }

    private static int told(int[] row, int what) {
        if (what == 0) {
            for (int i = 0; i < free(row.length).size(); i++) {
                if (Arrays.equals(free(row.length).get(i), row)) {
                    return i;
                }
            }
            return -1;
        }
        if (what == 1) {
            return weight(row);
        }
        int many = 0;
        for (int[] other : free(row.length)) {
            many += (what == 2 ? finer(other, row) : finer(row, other)) ? 1 : 0;
        }
        return many;
    }

    private static int handles(int[] row) {
        int n = row.length;
        boolean[] gone = new boolean[n];
        int rings = 0;
        for (int first = 0; first < n; first++) {
            if (!gone[first]) {
                rings++;
            }
            for (int at = first; !gone[at];) {
                gone[at] = true;
                int partner = 0;
                while (partner == at || row[partner] != row[at]) {
                    partner++;
                }
                at = (partner + 1) % n;
            }
        }
        return (n / 2 + 1 - rings) / 2;
    }

    // ---- series, by listing partings

    private static final Map<Integer, Map<String, Long>> SHAPES = new HashMap<>();

    /** The sizes of BLOCKS of the partings of a sort, but that into one, and how often they come. */
    private static Map<String, Long> shapes(int sort, int n) {
        return SHAPES.computeIfAbsent(10 * n + sort, key -> {
            Map<String, Long> shapes = new HashMap<>();
            for (int[] row : each(n)) {
                boolean fits = sort == 0 || sort == 1 && isFree(row) || sort == 2 && isRows(row);
                int[] sizes = sizes(row);
                if (fits && sizes.length > 1) {
                    Arrays.sort(sizes);
                    StringBuilder text = new StringBuilder();
                    for (int s : sizes) {
                        text.append((char) s);
                    }
                    shapes.merge(text.toString(), 1L, Long::sum);
                }
            }
            return shapes;
        });
    }

    private static long sumOfFiner(int sort, int n, long[] k, long p) {
        long sum = 0;
        for (Map.Entry<String, Long> shape : shapes(sort, n).entrySet()) {
            long product = shape.getValue() % p;
            for (char s : shape.getKey().toCharArray()) {
                product = product * k[s] % p;
            }
            sum = (sum + product) % p;
        }
        return sum;
    }

    private static long[] toMoments(int sort, long[] k, long p) {
        long[] m = k.clone();
        for (int n = 1; n < k.length && sort != NONE; n++) {
            m[n] = (k[n] + sumOfFiner(sort, n, k, p)) % p;
        }
        return m;
    }

    private static long[] toCumulants(int sort, long[] m, long p) {
        long[] k = m.clone();
        for (int n = 1; n < m.length && sort != NONE; n++) {
            k[n] = Math.floorMod(m[n] - sumOfFiner(sort, n, k, p), p);
        }
        return k;
    }

    private static long product(int n, long[] a, long[] b, long p) {
        long sum = 0;
        for (int[] row : free(n)) {
            long product = 1;
            for (int s : sizes(row)) {
                product = product * a[s] % p;
            }
            for (int s : sizes(complement(row))) {
                product = product * b[s] % p;
            }
            sum = (sum + product) % p;
        }
        return sum;
    }

    /** By developing along the first row. */
    private static BigInteger determinant(BigInteger[][] rows) {
        int n = rows.length;
        if (n == 0) {
            return BigInteger.ONE;
        }
        BigInteger sum = BigInteger.ZERO;
        for (int c = 0; c < n; c++) {
            BigInteger[][] less = new BigInteger[n - 1][n - 1];
            for (int i = 1; i < n; i++) {
                for (int j = 0; j < n - 1; j++) {
                    less[i - 1][j] = rows[i][j < c ? j : j + 1];
                }
            }
            BigInteger part = rows[0][c].multiply(determinant(less));
            sum = c % 2 == 0 ? sum.add(part) : sum.subtract(part);
        }
        return sum;
    }

    // ---- the model: its state, and a method for each call

    private static final class Model {
        final long p;
        final long[][] sheets = new long[8][];
        final int[] lanes = new int[8];
        final int[][] shelf = new int[10][];
        List<Integer> trace = new ArrayList<>();
        final long[][] series = new long[8][];
        int status = 0;

        Model(int p) {
            boolean prime = p >= 101 && p <= 2000000000 && BigInteger.valueOf(p).isProbablePrime(40);
            this.p = prime ? p : 998244353;
            for (int s = 0; s < 8; s++) {
                series[s] = new long[] {1, 0};
            }
        }

        int found(int number) {
            status = number;
            return -1000010 - number;
        }

        int fine(int answer) {
            status = 0;
            return answer;
        }

        static boolean in(int v, int least, int most) {
            return v >= least && v <= most;
        }

        boolean beyond(int sheet, int i, int n) {
            return i < 0 || n < 0 || (long) i + n > sheets[sheet].length;
        }

        int sheet(int sheet, int lane, int n) {
            if (!in(sheet, 0, 7) || !in(lane, 0, 2) || n > 40) return BAD;
            if (n < 0) return found(4);
            sheets[sheet] = new long[n];
            lanes[sheet] = lane;
            return fine(n);
        }

        long set(int sheet, int i, long v) {
            if (!in(sheet, 0, 7)) return BAD;
            if (sheets[sheet] == null) return found(1);
            if (!in(i, 0, sheets[sheet].length - 1)) return found(2);
            int lost = new int[] {56, 32, 0}[lanes[sheet]];
            sheets[sheet][i] = v << lost >> lost;
            fine(0);
            return sheets[sheet][i];
        }

        int copy(int a, int i, int b, int j, int n) {
            if (!in(a, 0, 7) || !in(b, 0, 7)) return BAD;
            if (sheets[a] == null || sheets[b] == null) return found(1);
            if (lanes[a] != lanes[b]) return found(5);
            if (beyond(a, i, n) || beyond(b, j, n)) return found(2);
            long[] ahead = sheets[a].clone();
            for (int k = 0; k < n; k++) {
                sheets[b][j + k] = ahead[i + k];
            }
            return fine(n);
        }

        int drop(int sheet) {
            if (!in(sheet, 0, 7)) return BAD;
            if (sheets[sheet] == null) return found(1);
            int had = sheets[sheet].length;
            sheets[sheet] = null;
            return fine(had);
        }

        int shelve(int place, int[] row) {
            shelf[place] = row;
            return fine(kindOf(row));
        }

        int part(int place, int sheet, int i, int n) {
            if (!in(place, 0, 9) || !in(sheet, 0, 7) || !in(n, 1, 10)) return BAD;
            if (sheets[sheet] == null) return found(1);
            if (beyond(sheet, i, n)) return found(2);
            return shelve(place, numbered(Arrays.copyOfRange(sheets[sheet], i, i + n)));
        }

        int nth(int place, int n, int i) {
            if (!in(place, 0, 9) || !in(n, 1, 10)) return BAD;
            if (!in(i, 0, free(n).size() - 1)) return fine(NONE);
            return shelve(place, free(n).get(i));
        }

        int both(int to, int a, int b, int how) {
            if (!in(to, 0, 9) || !in(a, 0, 9) || !in(b, 0, 9) || !in(how, 0, 1)) return BAD;
            for (int place : new int[] {a, b}) {
                if (shelf[place] == null) return found(1);
                if (!isFree(shelf[place])) return found(3);
            }
            if (shelf[a].length != shelf[b].length) return BAD;
            return shelve(to, how == 0 ? meet(shelf[a], shelf[b]) : ModelTest.join(shelf[a], shelf[b]));
        }

        int turn(int to, int place, int how) {
            if (!in(to, 0, 9) || !in(place, 0, 9) || !in(how, 0, 1)) return BAD;
            if (shelf[place] == null) return found(1);
            if (how == 0 && !isFree(shelf[place])) return found(3);
            return shelve(to, how == 0 ? complement(shelf[place]) : turned(shelf[place]));
        }

        int clear(int place) {
            if (!in(place, 0, 9)) return BAD;
            int was = shelf[place] == null ? 0 : 1;
            shelf[place] = null;
            return was;
        }

        int kind(int place) {
            if (!in(place, 0, 9)) return BAD;
            if (shelf[place] == null) return found(1);
            return fine(kindOf(shelf[place]));
        }

        int is(int place, int kind) {
            if (!in(place, 0, 9) || !in(kind, 0, 4)) return BAD;
            return shelf[place] != null && isOf(kindOf(shelf[place]), kind) ? 1 : 0;
        }

        int as(int place, int kind) {
            if (!in(place, 0, 9) || !in(kind, 0, 4)) return BAD;
            if (shelf[place] == null) return found(1);
            if (!isOf(kindOf(shelf[place]), kind)) return found(3);
            return fine(sizes(shelf[place]).length);
        }

        int ask(int place, int what) {
            if (!in(place, 0, 9) || !in(what, 0, 1)) return BAD;
            trace = new ArrayList<>();
            int[] row = shelf[place];
            if (row == null) return found(1);
            int n = row.length;
            int blocks = sizes(row).length;
            int kind = kindOf(row);
            int[][] left = {
                {10}, {11, 10}, {12, 11, 10}, {13, 11, 10, 21, 20}, {14, 10},
                {20}, {21, 20}, {21, 20}, {21, 20}, {22, 20, 14, 10}};
            for (int body : left[5 * what + kind]) {
                trace.add(body);
            }
            int h = kind == 4 ? n * ModelTest.handles(row) : 0;
            int[] answers = {n, n + blocks, 2 * (n + blocks), n + blocks + blocks + 100, h,
                blocks, blocks + 100, blocks + 100, blocks + 100, blocks + h};
            return fine(answers[5 * what + kind]);
        }

        int trace(int i) {
            return in(i, 0, trace.size() - 1) ? trace.get(i) : NONE;
        }

        int block(int place, int point) {
            if (!in(place, 0, 9)) return BAD;
            if (shelf[place] == null) return found(1);
            if (!in(point, 0, shelf[place].length - 1)) return BAD;
            return fine(shelf[place][point]);
        }

        int told(int place, int what) {
            if (!in(place, 0, 9) || !in(what, 0, 3)) return BAD;
            if (shelf[place] == null) return found(1);
            if (!isFree(shelf[place])) return found(3);
            return fine(ModelTest.told(shelf[place], what));
        }

        int finer(int a, int b) {
            if (!in(a, 0, 9) || !in(b, 0, 9)) return BAD;
            if (shelf[a] == null || shelf[b] == null) return found(1);
            if (shelf[a].length != shelf[b].length) return BAD;
            return fine(ModelTest.finer(shelf[a], shelf[b]) ? 1 : 0);
        }

        int handles(int place) {
            if (!in(place, 0, 9)) return BAD;
            if (shelf[place] == null) return found(1);
            if (!isPairs(shelf[place])) return found(3);
            return fine(ModelTest.handles(shelf[place]));
        }

        int series(int to, int sheet, int i, int n, int sort) {
            if (!in(to, 0, 7) || !in(sheet, 0, 7) || !in(n, 1, 8) || sort != NONE && !in(sort, 0, 2)) return BAD;
            if (sheets[sheet] == null) return found(1);
            if (beyond(sheet, i, n)) return found(2);
            long[] numbers = new long[n + 1];
            numbers[0] = 1;
            for (int k = 1; k <= n; k++) {
                BigInteger item = BigInteger.valueOf(sheets[sheet][i + k - 1]);
                numbers[k] = item.mod(BigInteger.valueOf(p)).longValue();
            }
            series[to] = toMoments(sort, numbers, p);
            return fine(n);
        }

        long number(int s, int sort, int k) {
            if (!in(s, 0, 7) || sort != NONE && !in(sort, 0, 2) || !in(k, 1, series[s].length - 1)) return BAD;
            return toCumulants(sort, series[s], p)[k];
        }

        int join(int to, int a, int b, int how) {
            if (!in(to, 0, 7) || !in(a, 0, 7) || !in(b, 0, 7) || !in(how, 0, 3)) return BAD;
            int n = Math.min(series[a].length, series[b].length) - 1;
            int sort = Math.min(how, 3) == 3 ? 1 : how;
            long[] one = toCumulants(sort, series[a], p);
            long[] other = toCumulants(sort, series[b], p);
            long[] both = new long[n + 1];
            both[0] = 1;
            for (int k = 1; k <= n; k++) {
                both[k] = how == 3 ? product(k, one, other, p) : (one[k] + other[k]) % p;
            }
            series[to] = toMoments(sort, both, p);
            return n;
        }

        int change(int to, int from, int how, int c) {
            if (!in(to, 0, 7) || !in(from, 0, 7) || !in(how, 0, 1) || c < 0 || c >= p) return BAD;
            int sort = how == 0 ? NONE : 1;
            long[] numbers = toCumulants(sort, series[from], p);
            BigInteger big = BigInteger.valueOf(p);
            for (int k = 1; k < numbers.length; k++) {
                BigInteger factor = BigInteger.valueOf(c).modPow(BigInteger.valueOf(k - how), big);
                numbers[k] = BigInteger.valueOf(numbers[k]).multiply(factor).mod(big).longValue();
            }
            series[to] = toMoments(sort, numbers, p);
            return numbers.length - 1;
        }

        long hankel(int s, int k) {
            if (!in(s, 0, 7) || k < 0 || 2L * k > series[s].length - 1) return BAD;
            BigInteger[][] rows = new BigInteger[k + 1][k + 1];
            for (int i = 0; i <= k; i++) {
                for (int j = 0; j <= k; j++) {
                    rows[i][j] = BigInteger.valueOf(series[s][i + j]);
                }
            }
            return determinant(rows).mod(BigInteger.valueOf(p)).longValue();
        }

        int same(int a, int b) {
            if (!in(a, 0, 7) || !in(b, 0, 7)) return BAD;
            return Arrays.equals(series[a], series[b]) ? 1 : 0;
        }

        int count(int what) {
            if (!in(what, 0, 6)) return BAD;
            if (what == 6) return (int) p;
            int many = 0;
            for (long[] sheet : sheets) {
                many += what == 0 && sheet != null ? 1 : 0;
            }
            for (int[] row : shelf) {
                many += what > 0 && row != null && isOf(kindOf(row), what - 1) ? 1 : 0;
            }
            return many;
        }
    }

    // ---- all of a few points

    private static void put(FreeParts x, int place, int[] row) {
        x.sheet(7, 0, row.length);
        for (int k = 0; k < row.length; k++) {
            x.set(7, k, 7 - row[k]);
        }
        x.part(place, 7, 0, row.length);
    }

    private static boolean has(FreeParts x, int place, int[] row) {
        for (int k = 0; k < row.length; k++) {
            if (x.block(place, k) != row[k]) {
                return false;
            }
        }
        return x.block(place, row.length) == BAD;
    }

    private static void allPartings(int n) {
        for (int[] row : each(n)) {
            FreeParts x = new FreeParts(101);
            put(x, 0, row);
            String what = Arrays.toString(row);
            due("kind of " + what, x.kind(0), kindOf(row));
            due("BLOCKS of " + what, has(x, 0, row) ? 1 : 0, 1);
            due("HANDLES of " + what, x.handles(0), isPairs(row) ? handles(row) : -1000013);
            x.turn(1, 0, 1);
            due("TURNED " + what, has(x, 1, turned(row)) ? 1 : 0, 1);
            for (int w = 0; w < 4; w++) {
                due("told " + w + " of " + what, x.told(0, w), isFree(row) ? told(row, w) : -1000013);
            }
            if (isFree(row)) {
                x.turn(1, 0, 0);
                due("COMPLEMENT of " + what, has(x, 1, complement(row)) ? 1 : 0, 1);
            }
        }
    }

    private static void latticeOf(int n) {
        for (int[] a : free(n)) {
            long undone = 0;
            for (int[] b : free(n)) {
                FreeParts x = new FreeParts(101);
                put(x, 0, a);
                put(x, 1, b);
                String what = Arrays.toString(a) + ", " + Arrays.toString(b);
                x.both(2, 0, 1, 0);
                due("MEET of " + what, has(x, 2, meet(a, b)) ? 1 : 0, 1);
                x.both(2, 0, 1, 1);
                due("JOIN of " + what, has(x, 2, join(a, b)) ? 1 : 0, 1);
                due("FINER " + what, x.finer(0, 1), finer(a, b) ? 1 : 0);
                undone += x.finer(1, 0) == 1 ? x.told(1, 1) : 0;
            }
            due("WEIGHTS under " + Arrays.toString(a), undone, sizes(a).length == n ? 1 : 0);
        }
    }

    private static void allInOrder() {
        for (int n = 1; n <= 10; n++) {
            long weights = 0;
            for (int i = 0; i < free(n).size(); i++) {
                FreeParts x = new FreeParts(101);
                int[] row = free(n).get(i);
                String what = "nth(0, " + n + ", " + i + ")";
                due(what, x.nth(0, n, i), kindOf(row));
                due("BLOCKS of " + what, has(x, 0, row) ? 1 : 0, 1);
                due("ORDER of " + what, x.told(0, 0), i);
                due("OVER of " + what, x.told(0, 3), overByComplement(x));
                weights += x.told(0, 1);
            }
            due("WEIGHTS of " + n, weights, n == 1 ? 1 : 0);
        }
    }

    private static int overByComplement(FreeParts x) {
        x.turn(1, 0, 0);
        return x.told(1, 2);
    }

    // ---- counted

    private static void counted() {
        FreeParts x = new FreeParts(1999999973);
        for (int h = 1; h <= 5; h++) {
            int[] byHandles = new int[12];
            for (int[] row : each(2 * h)) {
                if (isPairs(row)) {
                    byHandles[handles(row)]++;
                }
            }
            for (int g = 0; g < 12; g++) {
                due("genus(" + h + ", " + g + ")", x.genus(h, g), byHandles[g]);
            }
        }
        for (int h = 1; h <= 10; h++) {
            for (int v = 0; v <= 1000; v++) {
                x = v % CALLS == 0 ? new FreeParts(1999999973) : x;
                due("mean(" + h + ", " + v + ")", x.mean(h, v), meanOf(h, v).mod(BigInteger.valueOf(1999999973)).longValue());
            }
        }
        x = new FreeParts(1999999973);
        for (int r = 1; r <= 4; r++) {
            for (int n = 0; n <= 12; n++) {
                due("walks(" + r + ", " + n + ")", x.walks(r, n), walksByReturns(r, n));
                if (Math.pow(2 * r, n) < 1e5) {
                    due("walks(" + r + ", " + n + ")", x.walks(r, n), walksByWords(r, new int[n], 0, n));
                }
            }
        }
    }

    /** (2 h - 1)!! times the sum over k of 2^(k - 1) times h over k - 1 times x over k. */
    private static BigInteger meanOf(int h, int x) {
        BigInteger sum = BigInteger.ZERO;
        for (int k = 1; k <= h + 1; k++) {
            sum = sum.add(BigInteger.TWO.pow(k - 1).multiply(over(h, k - 1)).multiply(over(x, k)));
        }
        for (int odd = 1; odd < 2 * h; odd += 2) {
            sum = sum.multiply(BigInteger.valueOf(odd));
        }
        return sum;
    }

    private static BigInteger over(int n, int k) {
        BigInteger product = BigInteger.ONE;
        for (int i = 0; i < k; i++) {
            product = product.multiply(BigInteger.valueOf(n - i)).divide(BigInteger.valueOf(i + 1));
        }
        return product;
    }

    private static long walksByReturns(int r, int n) {
        long[] catalan = {1, 1, 2, 5, 14, 42};
        long[] walks = new long[n + 1];
        walks[0] = 1;
        for (int m = 2; m <= n; m += 2) {
            long away = 2L * r;
            for (int j = 1; 2 * j <= m; j++) {
                walks[m] += away * catalan[j - 1] * walks[m - 2 * j];
                away *= 2 * r - 1;
            }
        }
        return walks[n];
    }

    /** Rows of steps, a step and the one that undoes it (2 k, 2 k + 1) taken away next to one another. */
    private static long walksByWords(int r, int[] word, int length, int left) {
        if (left == 0) {
            return length == 0 ? 1 : 0;
        }
        long many = 0;
        for (int step = 0; step < 2 * r; step++) {
            if (length > 0 && word[length - 1] == (step ^ 1)) {
                many += walksByWords(r, word, length - 1, left - 1);
                word[length - 1] = step ^ 1;
            } else {
                word[length] = step;
                many += walksByWords(r, word, length + 1, left - 1);
            }
        }
        return many;
    }

    // ---- random runs

    private static final int[] ODD = {-1, -2, Integer.MIN_VALUE, Integer.MAX_VALUE, NONE, BAD, 41, 100, 1 << 30};
    private static final int[] MODULI = {101, 103, 997, 1000003, 998244353, 1999999973, 100, 0, 1999999975};

    private static int pick(Random random, int least, int most) {
        int sort = random.nextInt(60);
        if (sort == 0) {
            return ODD[random.nextInt(ODD.length)];
        }
        if (sort == 1) {
            return most + 1;
        }
        if (sort == 2) {
            return least - 1;
        }
        return least + random.nextInt(most - least + 1);
    }

    private static long item(Random random) {
        switch (random.nextInt(6)) {
            case 0: return random.nextLong();
            case 1: return random.nextInt();
            case 2: return random.nextInt(300);
            default: return random.nextInt(4);
        }
    }

    /** Half of the runs have few places, so that what is there is met again. */
    private static void randomRun(int seed) {
        Random random = new Random(seed);
        int p = MODULI[random.nextInt(MODULI.length)];
        FreeParts x = new FreeParts(p);
        Model m = new Model(p);
        int few = seed % 2 == 0 ? 2 : 7;
        int shelf = seed % 2 == 0 ? 4 : 9;
        int points = seed % 3 == 0 ? 10 : 6;
        // Each answer seen is one call, and no step takes more than some: an object is good for so many calls.
        long first = seen;
        while (seen - first <= CALLS - MOST_AT_ONCE) {
            String run = "run " + seed + ", call " + (seen - first + 1) + ": ";
            if (!oneCall(x, m, random, few, shelf, points, run) || !due(run + "then status()", x.status(), m.status)) {
                return;
            }
        }
    }

    private static boolean oneCall(FreeParts x, Model m, Random random, int few, int shelf, int points, String run) {
        int which = random.nextInt(34);
        int a = pick(random, 0, which < 6 ? few : which < 22 ? shelf : few);
        int b = pick(random, 0, which < 6 ? few : which < 22 ? shelf : few);
        int c = pick(random, 0, which < 6 ? few : which < 22 ? shelf : few);
        switch (which) {
            case 0: {
                int lane = pick(random, 0, 2), n = pick(random, 0, 40);
                return due(run + "sheet(" + a + ", " + lane + ", " + n + ")", x.sheet(a, lane, n), m.sheet(a, lane, n));
            }
            case 1: case 2: case 3: {
                boolean ok = true;
                for (int i = pick(random, 0, 30), end = i + 4; i < end && ok; i++) {
                    long v = item(random);
                    ok = due(run + "set(" + a + ", " + i + ", " + v + ")", x.set(a, i, v), m.set(a, i, v));
                }
                return ok;
            }
            case 4: {
                int i = pick(random, 0, 20), j = pick(random, 0, 20), n = pick(random, 0, 15);
                return due(run + "copy(" + a + ", " + i + ", " + b + ", " + j + ", " + n + ")", x.copy(a, i, b, j, n), m.copy(a, i, b, j, n));
            }
            case 5:
                return random.nextInt(3) > 0 || due(run + "drop(" + a + ")", x.drop(a), m.drop(a));
            case 6: case 7: case 8: {
                int s = pick(random, 0, few), i = pick(random, 0, 20), n = pick(random, 1, points);
                return due(run + "part(" + a + ", " + s + ", " + i + ", " + n + ")", x.part(a, s, i, n), m.part(a, s, i, n));
            }
            case 9: case 10: {
                int n = random.nextInt(3) == 0 ? pick(random, 1, points) : points;
                int i = pick(random, 0, n >= 1 && n <= 10 ? free(n).size() - 1 : 5);
                return due(run + "nth(" + a + ", " + n + ", " + i + ")", x.nth(a, n, i), m.nth(a, n, i));
            }
            case 11: case 12: {
                int how = pick(random, 0, 1);
                return due(run + "both(" + a + ", " + b + ", " + c + ", " + how + ")", x.both(a, b, c, how), m.both(a, b, c, how));
            }
            case 13: {
                int how = pick(random, 0, 1);
                return due(run + "turn(" + a + ", " + b + ", " + how + ")", x.turn(a, b, how), m.turn(a, b, how));
            }
            case 14:
                return random.nextInt(3) > 0 || due(run + "clear(" + a + ")", x.clear(a), m.clear(a));
            case 15:
                return due(run + "kind(" + a + ")", x.kind(a), m.kind(a));
            case 16: {
                int kind = pick(random, 0, 4);
                return due(run + "is(" + a + ", " + kind + ")", x.is(a, kind), m.is(a, kind))
                    && due(run + "as(" + a + ", " + kind + ")", x.as(a, kind), m.as(a, kind));
            }
            case 17: {
                int what = pick(random, 0, 1);
                boolean ok = due(run + "ask(" + a + ", " + what + ")", x.ask(a, what), m.ask(a, what));
                for (int i = -1; i < 7; i++) {
                    ok &= due(run + "trace(" + i + ")", x.trace(i), m.trace(i));
                }
                return ok;
            }
            case 18: {
                boolean ok = true;
                for (int point = -1; point < 11; point++) {
                    ok &= due(run + "block(" + a + ", " + point + ")", x.block(a, point), m.block(a, point));
                }
                return ok;
            }
            case 19: {
                int what = pick(random, 0, 3);
                return due(run + "told(" + a + ", " + what + ")", x.told(a, what), m.told(a, what));
            }
            case 20:
                return due(run + "finer(" + a + ", " + b + ")", x.finer(a, b), m.finer(a, b));
            case 21:
                return due(run + "handles(" + a + ")", x.handles(a), m.handles(a));
            case 22: case 23: case 24: {
                int i = pick(random, 0, 20), n = pick(random, 1, 8), sort = pick(random, -1, 2);
                sort = sort == -1 ? NONE : sort;
                return due(run + "series(" + a + ", " + b + ", " + i + ", " + n + ", " + sort + ")", x.series(a, b, i, n, sort), m.series(a, b, i, n, sort));
            }
            case 25: case 26: {
                int sort = random.nextInt(4) - 1;
                sort = sort == -1 ? NONE : sort;
                boolean ok = true;
                for (int k = 0; k <= 9; k++) {
                    ok &= due(run + "number(" + a + ", " + sort + ", " + k + ")", x.number(a, sort, k), m.number(a, sort, k));
                }
                return ok;
            }
            case 27: case 28: {
                int how = pick(random, 0, 3);
                return due(run + "join(" + a + ", " + b + ", " + c + ", " + how + ")", x.join(a, b, c, how), m.join(a, b, c, how));
            }
            case 29: {
                int how = pick(random, 0, 1);
                int by = random.nextInt(4) == 0 ? (int) (m.p - random.nextInt(3)) : pick(random, 0, 100);
                return due(run + "change(" + a + ", " + b + ", " + how + ", " + by + ")", x.change(a, b, how, by), m.change(a, b, how, by));
            }
            case 30: {
                int k = pick(random, 0, 4);
                return due(run + "hankel(" + a + ", " + k + ")", x.hankel(a, k), m.hankel(a, k));
            }
            case 31:
                return due(run + "same(" + a + ", " + b + ")", x.same(a, b), m.same(a, b));
            case 32: {
                int what = pick(random, 0, 6);
                return due(run + "count(" + what + ")", x.count(what), m.count(what));
            }
            default: {
                int i = pick(random, 0, 18);
                return due(run + "trace(" + i + ")", x.trace(i), m.trace(i));
            }
        }
    }
}
