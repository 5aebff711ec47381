import java.util.ArrayList;
import java.util.List;

/** Each promise of the document by hand: ordinary inputs, the edges it names, wrong inputs. */
public final class PromisesTest {
    private static final int NONE = -1000000, BAD = -1000001;
    private static final int NULL = -1000011, PLACE = -1000012, KIND = -1000013, SIZE = -1000014, STORE = -1000015;
    private static final int MIN = Integer.MIN_VALUE, MAX = Integer.MAX_VALUE;

    private static int wrong = 0;
    private static int seen = 0;
    private static int promise = 0;

    private static void due(String call, long got, long want) {
        seen++;
        if (got != want) {
            wrong++;
            System.out.println("promise " + promise + ": " + call + " answered " + got + ", due is " + want);
        }
    }

    public static void main(String[] args) {
        newObject();
        sheet();
        set();
        copy();
        drop();
        part();
        nth();
        both();
        turn();
        clear();
        kind();
        is();
        as();
        ask();
        trace();
        block();
        told();
        finer();
        handles();
        series();
        number();
        join();
        change();
        hankel();
        same();
        genus();
        mean();
        walks();
        count();
        status();
        System.out.println(seen + " answers seen, " + wrong + " not as due");
        if (wrong != 0) {
            System.exit(1);
        }
    }

    // ---- helpers

    private static void fill(FreeParts x, int sheet, long... items) {
        x.sheet(sheet, 2, items.length);
        for (int i = 0; i < items.length; i++) {
            x.set(sheet, i, items[i]);
        }
    }

    /** A place gets a parting by labels; SHEET 7 is used, and is missing afterwards. */
    private static int thing(FreeParts x, int place, long... labels) {
        fill(x, 7, labels);
        int kind = x.part(place, 7, 0, labels.length);
        x.drop(7);
        return kind;
    }

    private static void serie(FreeParts x, int to, int sort, long... numbers) {
        fill(x, 7, numbers);
        x.series(to, 7, 0, numbers.length, sort);
        x.drop(7);
    }

    private static String blocks(FreeParts x, int place, int n) {
        StringBuilder text = new StringBuilder();
        for (int k = 0; k < n; k++) {
            text.append(x.block(place, k));
        }
        return text.toString();
    }

    private static void dueBlocks(String what, FreeParts x, int place, String want) {
        String got = blocks(x, place, want.length());
        seen++;
        if (!got.equals(want)) {
            wrong++;
            System.out.println("promise " + promise + ": " + what + " has BLOCKS " + got + ", due is " + want);
        }
        due(what + ", one POINT more", x.block(place, want.length()), BAD);
    }

    private static void dueTrace(FreeParts x, int... want) {
        for (int i = 0; i < want.length; i++) {
            due("trace(" + i + ")", x.trace(i), want[i]);
        }
        due("trace behind the last", x.trace(want.length), NONE);
    }

    private static void dueMoments(String what, FreeParts x, int series, long... want) {
        dueNumbers(what, x, series, NONE, want);
    }

    private static void dueNumbers(String what, FreeParts x, int series, int sort, long... want) {
        for (int k = 1; k <= want.length; k++) {
            due(what + ", sort " + sort + ", number " + k, x.number(series, sort, k), want[k - 1]);
        }
        due(what + ", number behind the last", x.number(series, sort, want.length + 1), BAD);
    }

    private static int[] outside(int most) {
        return new int[] {-1, most + 1, MIN, MAX, NONE, BAD};
    }

    // ---- 1

    private static void newObject() {
        promise = 1;
        int[] kept = {101, 103, 997, 1000003, 44699, 998244353, 1999999973, 1999999943};
        for (int p : kept) {
            due("new FreeParts(" + p + ").count(6)", new FreeParts(p).count(6), p);
        }
        // 97 and 2000000011 are prime, but outside; 104, 111 have no divisor but 2 or 3 up to their roots;
        // 1999073521 is 44711 squared.
        int[] refused = {100, 97, 104, 111, 2, 1, 0, -1, -101, MIN, MAX, 102, 105, 121, 169, 2000000000, 2000000011,
            1999073521, 1999999974, 1999999975, 10403, 561, 1105};
        for (int p : refused) {
            due("new FreeParts(" + p + ").count(6)", new FreeParts(p).count(6), 998244353);
        }
        FreeParts x = new FreeParts(101);
        for (int s = 0; s < 8; s++) {
            due("drop of a new one", x.drop(s), NULL);
            dueMoments("a new SERIES", x, s, 0);
        }
        for (int s = 0; s < 10; s++) {
            due("kind of a new one", x.kind(s), NULL);
        }
        due("trace of a new one", x.trace(0), NONE);
        due("status of a new one", new FreeParts(101).status(), 0);
    }

    // ---- 2 to 5

    private static void sheet() {
        promise = 2;
        FreeParts x = new FreeParts(101);
        for (int lane = 0; lane <= 2; lane++) {
            due("sheet", x.sheet(lane, lane, 0), 0);
            due("sheet", x.sheet(lane, lane, 40), 40);
            due("sheet", x.sheet(lane, lane, 41), BAD);
            due("sheet", x.sheet(lane, lane, -1), SIZE);
            due("sheet", x.sheet(lane, lane, MIN), SIZE);
            due("SIZE leaves the SHEET", x.drop(lane), 40);
        }
        for (int s : outside(7)) {
            due("sheet " + s, x.sheet(s, 0, 1), BAD);
            due("BAD ahead of SIZE", x.sheet(s, 0, -1), BAD);
        }
        for (int lane : outside(2)) {
            due("lane " + lane, x.sheet(0, lane, 1), BAD);
            due("BAD ahead of SIZE", x.sheet(0, lane, -1), BAD);
        }
        due("sheet(7)", x.sheet(7, 2, 3), 3);
        x.set(7, 1, 5);
        due("anew", x.sheet(7, 1, 3), 3);
        thingOfZeros(x);
    }

    private static void thingOfZeros(FreeParts x) {
        due("ITEMS are 0 at first", x.part(0, 7, 0, 3), 2);
        due("ITEMS are 0 at first", x.as(0, 0), 1);
        x.series(0, 7, 0, 3, NONE);
        dueMoments("ITEMS are 0 at first", x, 0, 0, 0, 0);
    }

    private static void set() {
        promise = 3;
        FreeParts x = new FreeParts(101);
        x.sheet(0, 0, 2);
        x.sheet(1, 1, 2);
        x.sheet(2, 2, 2);
        due("byte", x.set(0, 0, 127), 127);
        due("byte", x.set(0, 0, 128), -128);
        due("byte", x.set(0, 0, 255), -1);
        due("byte", x.set(0, 0, 256), 0);
        due("byte", x.set(0, 1, -129), 127);
        due("byte", x.set(0, 1, Long.MIN_VALUE), 0);
        due("int", x.set(1, 0, 1L << 31), MIN);
        due("int", x.set(1, 0, (1L << 32) + 5), 5);
        due("int", x.set(1, 1, 255), 255);
        due("int", x.set(1, 1, Long.MAX_VALUE), -1);
        due("long", x.set(2, 0, Long.MAX_VALUE), Long.MAX_VALUE);
        due("long", x.set(2, 1, Long.MIN_VALUE), Long.MIN_VALUE);
        for (int i : new int[] {-1, 2, 39, 40, MIN, MAX}) {
            due("set at " + i, x.set(0, i, 1), PLACE);
        }
        for (int s : outside(7)) {
            due("set of " + s, x.set(s, 0, 1), BAD);
        }
        due("missing", x.set(3, -1, 1), NULL);
        x.sheet(3, 2, 0);
        due("no ITEMS", x.set(3, 0, 1), PLACE);
    }

    private static void copy() {
        promise = 4;
        FreeParts x = new FreeParts(101);
        fill(x, 0, 1, 2, 3, 4, 5);
        due("overlapping", x.copy(0, 0, 0, 1, 4), 4);
        x.series(0, 0, 0, 5, NONE);
        dueMoments("forwards", x, 0, 1, 1, 2, 3, 4);
        due("overlapping", x.copy(0, 1, 0, 0, 4), 4);
        x.series(0, 0, 0, 5, NONE);
        dueMoments("backwards", x, 0, 1, 2, 3, 4, 4);
        x.sheet(1, 2, 3);
        due("to another", x.copy(0, 1, 1, 0, 3), 3);
        x.series(0, 1, 0, 3, NONE);
        dueMoments("to another", x, 0, 2, 3, 4);
        due("none", x.copy(0, 5, 1, 3, 0), 0);
        int[][] beyond = {{-1, 0, 1}, {0, -1, 1}, {0, 0, -1}, {5, 0, 1}, {0, 3, 1}, {0, 0, 4}, {6, 0, 0}, {0, 4, 0},
            {MAX, 0, 1}, {0, MAX, 1}, {0, 0, MAX}, {MAX, MAX, MAX}, {MIN, 0, 0}, {0, MIN, 0}, {0, 0, MIN}, {1, 1, MAX}};
        for (int[] b : beyond) {
            due("beyond an end", x.copy(0, b[0], 1, b[1], b[2]), PLACE);
        }
        x.sheet(2, 1, 5);
        due("two LANES", x.copy(0, 0, 2, 0, 1), STORE);
        due("STORE ahead of PLACE", x.copy(0, -1, 2, 0, 1), STORE);
        due("missing", x.copy(3, 0, 0, 0, 1), NULL);
        due("missing", x.copy(0, 0, 3, 0, 1), NULL);
        due("NULL ahead of PLACE", x.copy(0, -1, 3, 0, -1), NULL);
        for (int s : outside(7)) {
            due("copy of " + s, x.copy(s, 0, 0, 0, 0), BAD);
            due("copy to " + s, x.copy(0, 0, s, 0, 0), BAD);
            due("BAD ahead of NULL", x.copy(3, 0, s, 0, 0), BAD);
        }
    }

    private static void drop() {
        promise = 5;
        FreeParts x = new FreeParts(101);
        x.sheet(0, 0, 40);
        due("drop", x.drop(0), 40);
        due("drop again", x.drop(0), NULL);
        due("missing now", x.set(0, 0, 1), NULL);
        x.sheet(0, 2, 0);
        due("drop of none", x.drop(0), 0);
        for (int s : outside(7)) {
            due("drop of " + s, x.drop(s), BAD);
        }
    }

    // ---- 6 to 10

    private static void part() {
        promise = 6;
        FreeParts x = new FreeParts(101);
        due("rows", thing(x, 0, 9, 9, -4, 7, 7), 2);
        dueBlocks("rows", x, 0, "00122");
        due("free", thing(x, 1, 3, 1, 3), 1);
        dueBlocks("free", x, 1, "010");
        due("free round the ring", thing(x, 1, 3, 1, 1, 3, 3), 1);
        due("pairs nested", thing(x, 2, 3, 1, 1, 3), 3);
        due("pairs in a row", thing(x, 2, 3, 3, 1, 1), 2);
        due("pairs crossing", thing(x, 3, 3, 1, 3, 1), 4);
        due("crossing", thing(x, 4, 3, 1, 3, 1, 3), 0);
        dueBlocks("crossing", x, 4, "01010");
        due("crossing, one alone", thing(x, 4, 3, 1, 3, 1, 5), 0);
        due("one POINT", thing(x, 5, Long.MIN_VALUE), 2);
        due("ten POINTS", thing(x, 5, 0, 1, 2, 3, 4, 5, 6, 7, 8, 9), 2);
        due("ten POINTS", thing(x, 5, 0, 1, 2, 3, 4, 4, 3, 2, 1, 0), 3);
        due("ten POINTS", thing(x, 5, 0, 1, 2, 3, 4, 0, 1, 2, 3, 4), 4);
        fill(x, 0, 1, 1, 1L << 32, 0, 1);
        due("all bits count", x.part(6, 0, 0, 4), 2);
        dueBlocks("all bits count", x, 6, "0012");
        due("from 1 on", x.part(6, 0, 1, 4), 1);
        dueBlocks("from 1 on", x, 6, "0120");
        x.set(0, 1, 0);
        dueBlocks("THINGS never change", x, 6, "0120");
        due("beyond the end", x.part(6, 0, 2, 4), PLACE);
        due("ahead of the first", x.part(6, 0, -1, 4), PLACE);
        due("far", x.part(6, 0, MAX, 4), PLACE);
        dueBlocks("what is found changes nothing", x, 6, "0120");
        due("missing", x.part(6, 1, -1, 4), NULL);
        for (int s : outside(9)) {
            due("place " + s, x.part(s, 0, 0, 1), BAD);
            due("n " + (s + 1), x.part(0, 0, 0, s == MAX ? MAX : s + 1), BAD);
        }
        for (int s : outside(7)) {
            due("sheet " + s, x.part(0, s, 0, 1), BAD);
        }
        due("BAD ahead of NULL", x.part(0, 1, 0, 0), BAD);
    }

    private static void nth() {
        promise = 7;
        FreeParts x = new FreeParts(101);
        int[] many = {0, 1, 2, 5, 14, 42, 132, 429, 1430, 4862, 16796};
        for (int n = 1; n <= 10; n++) {
            due("first of " + n, x.nth(0, n, 0), 2);
            due("BLOCKS of the first", x.as(0, 2), 1);
            due("last of " + n, x.nth(0, n, many[n] - 1), 2);
            due("BLOCKS of the last", x.as(0, 2), n);
            due("behind the last of " + n, x.nth(0, n, many[n]), NONE);
            due("ahead of the first", x.nth(0, n, -1), NONE);
            due("far", x.nth(0, n, MIN), NONE);
            due("far", x.nth(0, n, MAX), NONE);
        }
        due("NONE changes nothing", x.as(0, 0), 10);
        String[] three = {"000", "001", "010", "011", "012"};
        for (int i = 0; i < 5; i++) {
            x.nth(1, 3, i);
            dueBlocks("nth of 3", x, 1, three[i]);
        }
        due("nested", x.nth(1, 4, 7), 3);
        for (int s : outside(9)) {
            due("place " + s, x.nth(s, 3, 0), BAD);
            due("BAD ahead of NONE", x.nth(s, 3, -1), BAD);
        }
        for (int n : new int[] {0, -1, 11, MIN, MAX}) {
            due("n " + n, x.nth(0, n, 0), BAD);
            due("BAD ahead of NONE", x.nth(0, n, -1), BAD);
        }
    }

    private static void both() {
        promise = 8;
        FreeParts x = new FreeParts(101);
        thing(x, 0, 0, 1, 0, 2);
        thing(x, 1, 0, 1, 2, 1);
        due("meet", x.both(2, 0, 1, 0), 2);
        dueBlocks("meet", x, 2, "0123");
        due("join of two that cross", x.both(2, 0, 1, 1), 2);
        dueBlocks("join of two that cross", x, 2, "0000");
        thing(x, 0, 0, 0, 1, 2, 1, 3);
        thing(x, 1, 0, 1, 1, 2, 3, 3);
        due("meet", x.both(2, 0, 1, 0), 2);
        dueBlocks("meet", x, 2, "012345");
        due("join", x.both(2, 0, 1, 1), 1);
        dueBlocks("join", x, 2, "000100");
        due("in place", x.both(0, 0, 0, 1), 1);
        dueBlocks("in place", x, 0, "001213");
        thing(x, 3, 0, 1, 0, 1, 2, 2);
        due("KIND of a", x.both(4, 3, 0, 0), KIND);
        due("KIND of b", x.both(4, 0, 3, 1), KIND);
        due("NULL of a", x.both(4, 5, 3, 1), NULL);
        due("NULL of b", x.both(4, 0, 5, 1), NULL);
        due("a's KIND ahead of b's NULL", x.both(4, 3, 5, 1), KIND);
        thing(x, 6, 0, 1, 2);
        due("unlike n", x.both(4, 0, 6, 1), BAD);
        due("KIND ahead of unlike n", x.both(4, 6, 3, 1), KIND);
        due("nothing changed", x.kind(4), NULL);
        for (int s : outside(9)) {
            due("to " + s, x.both(s, 0, 0, 0), BAD);
            due("a " + s, x.both(0, s, 0, 0), BAD);
            due("b " + s, x.both(0, 0, s, 0), BAD);
            due("BAD ahead of NULL", x.both(0, 5, s, 0), BAD);
        }
        for (int how : outside(1)) {
            due("how " + how, x.both(0, 0, 0, how), BAD);
        }
    }

    private static void turn() {
        promise = 9;
        FreeParts x = new FreeParts(101);
        thing(x, 0, 0, 1, 0, 2, 2);
        due("complement", x.turn(1, 0, 0), 1);
        // 0' and 1' stand inside of 0 .. 2, 2' and 4' outside, 3' between 3 and 4
        dueBlocks("complement", x, 1, "00121");
        due("complement twice", x.turn(1, 1, 0), 1);
        // 0, 1, 0, 2, 2 led one back is 1, 0, 2, 2, 0: numbered anew
        dueBlocks("complement twice", x, 1, "01221");
        due("turned", x.turn(2, 0, 1), 1);
        dueBlocks("turned", x, 2, "01221");
        due("the same", x.finer(1, 2) + x.finer(2, 1), 2);
        due("turned in place", x.turn(2, 2, 1), 1);
        dueBlocks("turned in place", x, 2, "01102");
        thing(x, 3, 0, 1, 0, 1, 2);
        due("complement of what crosses", x.turn(4, 3, 0), KIND);
        due("nothing changed", x.kind(4), NULL);
        due("turned, crossing", x.turn(4, 3, 1), 0);
        dueBlocks("turned, crossing", x, 4, "01021");
        due("rows turned", x.turn(4, 6, 1), NULL);
        thing(x, 6, 0, 0, 1, 1);
        due("rows turned", x.turn(6, 6, 1), 3);
        due("and back", x.turn(6, 6, 1), 2);
        thing(x, 6, 5);
        due("one POINT", x.turn(6, 6, 0), 2);
        due("one POINT", x.turn(6, 6, 1), 2);
        dueBlocks("one POINT", x, 6, "0");
        due("NULL", x.turn(4, 5, 0), NULL);
        for (int s : outside(9)) {
            due("to " + s, x.turn(s, 0, 0), BAD);
            due("place " + s, x.turn(0, s, 1), BAD);
        }
        for (int how : outside(1)) {
            due("how " + how, x.turn(0, 5, how), BAD);
        }
    }

    private static void clear() {
        promise = 10;
        FreeParts x = new FreeParts(101);
        x.nth(9, 3, 0);
        due("clear", x.clear(9), 1);
        due("clear again", x.clear(9), 0);
        due("empty now", x.kind(9), NULL);
        for (int s : outside(9)) {
            due("clear of " + s, x.clear(s), BAD);
        }
    }

    // ---- 11 to 15

    private static FreeParts oneOfEach() {
        FreeParts x = new FreeParts(101);
        thing(x, 0, 0, 1, 0, 1, 0, 1);
        thing(x, 1, 0, 1, 0, 2, 2, 0);
        thing(x, 2, 0, 0, 1, 1, 2, 2);
        thing(x, 3, 0, 1, 1, 2, 2, 0);
        thing(x, 4, 0, 1, 2, 0, 1, 2);
        return x;
    }

    private static void kind() {
        promise = 11;
        FreeParts x = oneOfEach();
        for (int k = 0; k < 5; k++) {
            due("kind", x.kind(k), k);
        }
        due("kind", x.kind(5), NULL);
        for (int s : outside(9)) {
            due("kind of " + s, x.kind(s), BAD);
        }
    }

    private static void is() {
        promise = 12;
        FreeParts x = oneOfEach();
        int[][] want = {{1, 0, 0, 0, 0}, {1, 1, 0, 0, 0}, {1, 1, 1, 0, 0}, {1, 1, 0, 1, 0}, {1, 0, 0, 0, 1}, {0, 0, 0, 0, 0}};
        for (int place = 0; place < 6; place++) {
            for (int k = 0; k < 5; k++) {
                due("is(" + place + ", " + k + ")", x.is(place, k), want[place][k]);
            }
        }
        for (int s : outside(9)) {
            due("place " + s, x.is(s, 0), BAD);
        }
        for (int k : outside(4)) {
            due("kind " + k, x.is(0, k), BAD);
            due("kind " + k + " of nothing", x.is(5, k), BAD);
        }
    }

    private static void as() {
        promise = 13;
        FreeParts x = oneOfEach();
        int[] blocks = {2, 3, 3, 3, 3};
        for (int place = 0; place < 5; place++) {
            for (int k = 0; k < 5; k++) {
                int want = x.is(place, k) == 1 ? blocks[place] : KIND;
                due("as(" + place + ", " + k + ")", x.as(place, k), want);
            }
        }
        due("as of nothing", x.as(5, 0), NULL);
        due("as of nothing", x.as(5, 4), NULL);
        for (int s : outside(9)) {
            due("place " + s, x.as(s, 0), BAD);
        }
        for (int k : outside(4)) {
            due("kind " + k, x.as(0, k), BAD);
            due("BAD ahead of NULL", x.as(5, k), BAD);
        }
    }

    private static void ask() {
        promise = 14;
        FreeParts x = oneOfEach();
        due("SIZE of a THING", x.ask(0, 0), 6);
        dueTrace(x, 10);
        due("SIZE of a FREE one", x.ask(1, 0), 6 + 3);
        dueTrace(x, 11, 10);
        due("SIZE of ROWS", x.ask(2, 0), 2 * (6 + 3));
        dueTrace(x, 12, 11, 10);
        due("SIZE of a NESTED one", x.ask(3, 0), 6 + 3 + 3 + 100);
        dueTrace(x, 13, 11, 10, 21, 20);
        due("SIZE of a PAIRED one", x.ask(4, 0), 6 * 1);
        dueTrace(x, 14, 10);
        due("MARK of a THING", x.ask(0, 1), 2);
        dueTrace(x, 20);
        for (int place = 1; place <= 3; place++) {
            due("MARK of FREE ones", x.ask(place, 1), 103);
            dueTrace(x, 21, 20);
        }
        due("MARK of a PAIRED one", x.ask(4, 1), 3 + 6);
        dueTrace(x, 22, 20, 14, 10);
        thing(x, 5, 0, 1, 0, 1, 2, 3, 2, 3);
        due("SIZE with two HANDLES", x.ask(5, 0), 8 * 2);
        due("MARK with two HANDLES", x.ask(5, 1), 4 + 16);
        for (int s : outside(9)) {
            due("place " + s, x.ask(s, 0), BAD);
        }
        for (int w : outside(1)) {
            due("what " + w, x.ask(0, w), BAD);
            due("BAD ahead of NULL", x.ask(6, w), BAD);
        }
        dueTrace(x, 22, 20, 14, 10);
        due("NULL", x.ask(6, 0), NULL);
        dueTrace(x);
    }

    private static void trace() {
        promise = 15;
        FreeParts x = oneOfEach();
        due("ahead of all asks", x.trace(0), NONE);
        x.ask(3, 0);
        int[] want = {13, 11, 10, 21, 20};
        for (int i = 0; i < 5; i++) {
            due("trace " + i, x.trace(i), want[i]);
        }
        for (int i : new int[] {-1, 5, 6, 15, 16, 17, MIN, MAX}) {
            due("trace " + i, x.trace(i), NONE);
        }
        x.clear(3);
        due("other calls leave it", x.trace(4), 20);
        x.ask(0, 1);
        dueTrace(x, 20);
    }

    // ---- 16 to 19

    private static void block() {
        promise = 16;
        FreeParts x = new FreeParts(101);
        thing(x, 9, 5, 4, 5, 3, 4);
        dueBlocks("numbered by their least POINTS", x, 9, "01021");
        for (int point : new int[] {-1, 5, 9, 10, MIN, MAX}) {
            due("point " + point, x.block(9, point), BAD);
            due("NULL ahead of that", x.block(8, point), NULL);
        }
        for (int s : outside(9)) {
            due("place " + s, x.block(s, 0), BAD);
        }
    }

    private static void told() {
        promise = 17;
        FreeParts x = new FreeParts(101);
        thing(x, 0, 0, 1, 0, 2, 2, 2, 0);
        // BLOCKS of 3, 1, 3 POINTS; those of the complement have 2, 2, 1, 1, 1
        due("WEIGHT", x.told(0, 1), 2 * 1 * 2);
        due("UNDER", x.told(0, 2), 5 * 1 * 5);
        due("OVER", x.told(0, 3), 2 * 2);
        int[] many = {0, 1, 2, 5, 14, 42, 132, 429, 1430, 4862, 16796};
        for (int n = 1; n <= 10; n++) {
            x.nth(1, n, 0);
            due("WEIGHT of all in one", x.told(1, 1), (n % 2 == 1 ? 1 : -1) * (n == 1 ? 1 : many[n - 1]));
            due("UNDER of all in one", x.told(1, 2), many[n]);
            due("OVER of all in one", x.told(1, 3), 1);
            x.nth(1, n, many[n] - 1);
            due("WEIGHT of all alone", x.told(1, 1), 1);
            due("UNDER of all alone", x.told(1, 2), 1);
            due("OVER of all alone", x.told(1, 3), many[n]);
            int middle = many[n] / 2;
            x.nth(1, n, middle);
            due("ORDER", x.told(1, 0), middle);
        }
        thing(x, 2, 0, 1, 0, 1);
        for (int w = 0; w < 4; w++) {
            due("KIND", x.told(2, w), KIND);
            due("NULL", x.told(3, w), NULL);
        }
        for (int s : outside(9)) {
            due("place " + s, x.told(s, 0), BAD);
        }
        for (int w : outside(3)) {
            due("what " + w, x.told(0, w), BAD);
            due("BAD ahead of NULL", x.told(3, w), BAD);
        }
    }

    private static void finer() {
        promise = 18;
        FreeParts x = new FreeParts(101);
        thing(x, 0, 0, 1, 0, 1, 2);
        thing(x, 1, 0, 1, 0, 1, 1);
        thing(x, 2, 0, 0, 0, 0, 0);
        thing(x, 3, 0, 1, 2, 3, 4);
        thing(x, 4, 0, 0);
        due("finer", x.finer(0, 1), 1);
        due("not finer", x.finer(1, 0), 0);
        due("than itself", x.finer(0, 0), 1);
        due("than all in one", x.finer(1, 2), 1);
        due("all alone", x.finer(3, 0), 1);
        due("not finer", x.finer(0, 3), 0);
        due("unlike n", x.finer(0, 4), BAD);
        due("NULL of a", x.finer(5, 0), NULL);
        due("NULL of b", x.finer(0, 5), NULL);
        for (int s : outside(9)) {
            due("a " + s, x.finer(s, 0), BAD);
            due("b " + s, x.finer(0, s), BAD);
            due("BAD ahead of NULL", x.finer(5, s), BAD);
        }
    }

    private static void handles() {
        promise = 19;
        FreeParts x = new FreeParts(101);
        thing(x, 0, 0, 0);
        due("one pair", x.handles(0), 0);
        thing(x, 0, 0, 0, 1, 1);
        due("ROWS", x.handles(0), 0);
        thing(x, 0, 0, 1, 1, 0);
        due("NESTED", x.handles(0), 0);
        thing(x, 0, 0, 1, 0, 1);
        due("PAIRED", x.handles(0), 1);
        thing(x, 0, 0, 1, 2, 0, 1, 2);
        due("three across", x.handles(0), 1);
        thing(x, 0, 0, 1, 2, 3, 0, 1, 2, 3);
        due("four across", x.handles(0), 2);
        thing(x, 0, 0, 1, 2, 3, 4, 0, 1, 2, 3, 4);
        due("five across", x.handles(0), 2);
        thing(x, 0, 0, 1, 0, 1, 2, 3, 2, 3, 4, 4);
        due("two and none", x.handles(0), 2);
        thing(x, 1, 0, 1, 0, 1, 2);
        due("one alone", x.handles(1), KIND);
        thing(x, 1, 0, 0, 0, 0);
        due("four in one", x.handles(1), KIND);
        thing(x, 1, 0);
        due("one POINT", x.handles(1), KIND);
        thing(x, 1, 0, 0, 0, 1);
        due("three and one", x.handles(1), KIND);
        due("NULL", x.handles(2), NULL);
        for (int s : outside(9)) {
            due("place " + s, x.handles(s), BAD);
        }
    }

    // ---- 20 to 25

    private static void series() {
        promise = 20;
        FreeParts x = new FreeParts(101);
        fill(x, 0, 1, 1, 1, 1, 1, 1, 1, 1, -1, 101, 102, Long.MIN_VALUE);
        due("moments", x.series(0, 0, 0, 8, NONE), 8);
        dueMoments("moments", x, 0, 1, 1, 1, 1, 1, 1, 1, 1);
        due("each parting", x.series(0, 0, 0, 8, 0), 8);
        dueMoments("how many partings", x, 0, 1, 2, 5, 15, 52, 203 % 101, 877 % 101, 4140 % 101);
        due("free", x.series(0, 0, 0, 8, 1), 8);
        dueMoments("how many FREE ones", x, 0, 1, 2, 5, 14, 42, 132 % 101, 429 % 101, 1430 % 101);
        due("rows", x.series(0, 0, 0, 8, 2), 8);
        dueMoments("how many ROWS", x, 0, 1, 2, 4, 8, 16, 32, 64, 128 % 101);
        due("modulo p", x.series(7, 0, 8, 4, NONE), 4);
        dueMoments("modulo p", x, 7, 100, 0, 1, Math.floorMod(Long.MIN_VALUE, 101L));
        due("one", x.series(7, 0, 11, 1, 2), 1);
        due("beyond the end", x.series(7, 0, 11, 2, 2), PLACE);
        due("ahead of the first", x.series(7, 0, -1, 2, 2), PLACE);
        due("far", x.series(7, 0, MAX, 2, 2), PLACE);
        due("NULL", x.series(7, 1, -1, 2, 2), NULL);
        dueMoments("nothing changed", x, 7, Math.floorMod(Long.MIN_VALUE, 101L));
        for (int s : outside(7)) {
            due("to " + s, x.series(s, 0, 0, 1, 0), BAD);
            due("sheet " + s, x.series(0, s, 0, 1, 0), BAD);
        }
        for (int n : new int[] {0, -1, 9, MIN, MAX}) {
            due("N " + n, x.series(0, 1, 0, n, 0), BAD);
        }
        for (int sort : new int[] {-1, 3, MIN, MAX, BAD}) {
            due("sort " + sort, x.series(0, 1, 0, 1, sort), BAD);
        }
    }

    private static void number() {
        promise = 21;
        FreeParts x = new FreeParts(1000003);
        serie(x, 0, NONE, 1, 2, 5, 14);
        dueMoments("moments", x, 0, 1, 2, 5, 14);
        dueNumbers("each", x, 0, 0, 1, 1, 1, 0);
        dueNumbers("free", x, 0, 1, 1, 1, 1, 1);
        dueNumbers("rows", x, 0, 2, 1, 1, 2, 5);
        for (int sort : new int[] {-1, 3, MIN, MAX, BAD}) {
            due("sort " + sort, x.number(0, sort, 1), BAD);
        }
        for (int sort : new int[] {NONE, 0, 1, 2}) {
            for (int k : new int[] {0, -1, 5, 8, 9, MIN, MAX}) {
                due("k " + k, x.number(0, sort, k), BAD);
            }
        }
        for (int s : outside(7)) {
            due("series " + s, x.number(s, NONE, 1), BAD);
        }
    }

    private static void join() {
        promise = 22;
        FreeParts x = new FreeParts(1000003);
        serie(x, 0, NONE, 0, 1, 0, 1);
        due("each", x.join(1, 0, 0, 0), 4);
        dueMoments("a coin twice", x, 1, 0, 2, 0, 8);
        due("free", x.join(1, 0, 0, 1), 4);
        dueMoments("arcsine", x, 1, 0, 2, 0, 6);
        due("rows", x.join(1, 0, 0, 2), 4);
        dueMoments("rows", x, 1, 0, 2, 0, 4);
        serie(x, 2, 1, 1, 1, 1, 1);
        due("product", x.join(1, 2, 2, 3), 4);
        // numbers of chains of three in the lattice of FREE ones
        dueMoments("product", x, 1, 1, 3, 12, 55);
        dueNumbers("product", x, 1, 1, 1, 2, 5, 14);
        serie(x, 3, NONE, 1, 1);
        due("with 1, lesser N", x.join(3, 2, 3, 3), 2);
        dueMoments("with 1", x, 3, 1, 2);
        serie(x, 3, NONE, 0, 0, 0, 0, 0);
        due("with 0", x.join(2, 2, 3, 1), 4);
        dueMoments("with 0, in place", x, 2, 1, 2, 5, 14);
        for (int s : outside(7)) {
            due("to " + s, x.join(s, 0, 0, 0), BAD);
            due("a " + s, x.join(0, s, 0, 0), BAD);
            due("b " + s, x.join(0, 0, s, 0), BAD);
        }
        for (int how : outside(3)) {
            due("how " + how, x.join(0, 0, 0, how), BAD);
        }
        dueMoments("nothing changed", x, 0, 0, 1, 0, 1);
    }

    private static void change() {
        promise = 23;
        FreeParts x = new FreeParts(101);
        serie(x, 0, NONE, 1, 2, 3, 4);
        due("scaled", x.change(1, 0, 0, 3), 4);
        dueMoments("scaled", x, 1, 3, 18, 81, 324 % 101);
        due("scaled by 1", x.change(1, 0, 0, 1), 4);
        due("scaled by 1", x.same(0, 1), 1);
        due("scaled by 0", x.change(1, 0, 0, 0), 4);
        dueMoments("scaled by 0", x, 1, 0, 0, 0, 0);
        serie(x, 2, 1, 5, 6, 7, 8);
        due("pressed", x.change(2, 2, 1, 100), 4);
        dueNumbers("pressed, in place", x, 2, 1, 5, 95, 7, 93);
        due("pressed by 0", x.change(2, 2, 1, 0), 4);
        dueNumbers("pressed by 0", x, 2, 1, 5, 0, 0, 0);
        for (int s : outside(7)) {
            due("to " + s, x.change(s, 0, 0, 0), BAD);
            due("from " + s, x.change(0, s, 0, 0), BAD);
        }
        for (int how : outside(1)) {
            due("how " + how, x.change(0, 0, how, 0), BAD);
        }
        for (int c : new int[] {-1, 101, 102, MIN, MAX}) {
            due("c " + c, x.change(0, 0, 0, c), BAD);
            due("c " + c, x.change(0, 0, 1, c), BAD);
        }
        dueMoments("nothing changed", x, 0, 1, 2, 3, 4);
        FreeParts y = new FreeParts(1999999973);
        serie(y, 0, NONE, 1, 1);
        due("c of p - 1", y.change(0, 0, 0, 1999999972), 2);
        dueMoments("c of p - 1", y, 0, 1999999972, 1);
    }

    private static void hankel() {
        promise = 24;
        FreeParts x = new FreeParts(1000003);
        due("of a new one", x.hankel(0, 0), 1);
        serie(x, 0, 0, 0, 1, 0, 0, 0, 0, 0, 0);
        // of the normal law: the products of 0!, 1!, 2!, ..
        long[] want = {1, 1, 2, 12, 288};
        for (int k = 0; k <= 4; k++) {
            due("hankel", x.hankel(0, k), want[k]);
        }
        serie(x, 1, NONE, 0, 0, 1, 5);
        due("needs a swap of rows", x.hankel(1, 1), 0);
        due("needs a swap of rows", x.hankel(1, 2), 1000002);
        serie(x, 2, NONE, 1, 1, 1, 1, 1, 1, 1);
        due("odd N", x.hankel(2, 3), 0);
        due("odd N", x.hankel(2, 4), BAD);
        for (int k : new int[] {-1, 5, MIN, MAX, 1 << 30, 1 << 31}) {
            due("k " + k, x.hankel(0, k), BAD);
        }
        for (int s : outside(7)) {
            due("series " + s, x.hankel(s, 0), BAD);
        }
    }

    private static void same() {
        promise = 25;
        FreeParts x = new FreeParts(101);
        due("new ones", x.same(0, 7), 1);
        serie(x, 0, NONE, 1, 2, 3);
        serie(x, 1, NONE, 102, -99, 3);
        serie(x, 2, NONE, 1, 2);
        serie(x, 3, NONE, 1, 2, 4);
        due("modulo p", x.same(0, 1), 1);
        due("unlike N", x.same(0, 2), 0);
        due("unlike N", x.same(2, 0), 0);
        due("unlike", x.same(0, 3), 0);
        due("itself", x.same(3, 3), 1);
        serie(x, 0, NONE, 1, 2);
        due("what stood there is gone", x.same(0, 2), 1);
        for (int s : outside(7)) {
            due("a " + s, x.same(s, 0), BAD);
            due("b " + s, x.same(0, s), BAD);
        }
    }

    // ---- 26 to 30

    private static void genus() {
        promise = 26;
        FreeParts x = new FreeParts(101);
        List<long[]> want = new ArrayList<>();
        want.add(new long[] {1});
        want.add(new long[] {2, 1});
        want.add(new long[] {5, 10});
        want.add(new long[] {14, 70, 21});
        want.add(new long[] {42, 420, 483});
        want.add(new long[] {132, 2310, 6468, 1485});
        for (int h = 1; h <= 6; h++) {
            long[] row = want.get(h - 1);
            for (int g = 0; g < 12; g++) {
                due("genus(" + h + ", " + g + ")", x.genus(h, g), g < row.length ? row[g] : 0);
            }
        }
        long all = 1;
        for (int h = 1; h <= 10; h++) {
            all *= 2 * h - 1;
            long sum = 0;
            for (int g = 0; g <= h; g++) {
                sum += x.genus(h, g);
            }
            due("all pairings of " + h, sum, all);
            due("far", x.genus(h, MAX), 0);
            due("below 0", x.genus(h, -1), BAD);
            due("below 0", x.genus(h, MIN), BAD);
        }
        for (int h : new int[] {0, -1, 11, MIN, MAX}) {
            due("h " + h, x.genus(h, 0), BAD);
        }
    }

    private static void mean() {
        promise = 27;
        FreeParts x = new FreeParts(1000003);
        due("mean", x.mean(1, 7), 49);
        due("mean", x.mean(2, 7), 2 * 343 + 7);
        due("mean", x.mean(4, 3), 14 * 243 + 70 * 27 + 21 * 3);
        due("mean", x.mean(10, 1), 654729075L % 1000003);
        due("mean", x.mean(10, 0), 0);
        due("mean", x.mean(1, 1000), 1000000);
        FreeParts y = new FreeParts(101);
        due("mean modulo 101", y.mean(2, 1000), (2 * 1000000000L + 1000) % 101);
        for (int h : new int[] {0, -1, 11, MIN, MAX}) {
            due("h " + h, x.mean(h, 0), BAD);
        }
        for (int v : new int[] {-1, 1001, MIN, MAX}) {
            due("x " + v, x.mean(1, v), BAD);
        }
    }

    private static void walks() {
        promise = 28;
        FreeParts x = new FreeParts(101);
        long[] line = {1, 0, 2, 0, 6, 0, 20, 0, 70, 0, 252, 0, 924};
        long[] four = {1, 0, 4, 0, 28, 0, 232, 0, 2092, 0, 19864, 0, 195352};
        for (int n = 0; n <= 12; n++) {
            due("on a line", x.walks(1, n), line[n]);
            due("with four ways", x.walks(2, n), four[n]);
        }
        due("not modulo p", x.walks(4, 12), 21237168);
        due("three", x.walks(3, 4), 6 * 6 + 6 * 5);
        for (int r : new int[] {0, -1, 5, MIN, MAX}) {
            due("r " + r, x.walks(r, 0), BAD);
        }
        for (int n : new int[] {-1, 13, MIN, MAX}) {
            due("n " + n, x.walks(1, n), BAD);
        }
    }

    private static void count() {
        promise = 29;
        FreeParts x = oneOfEach();
        thing(x, 5, 0, 1, 0, 1, 2);
        thing(x, 6, 0);
        due("SHEETS", x.count(0), 0);
        x.sheet(0, 0, 0);
        x.sheet(6, 0, 5);
        due("SHEETS", x.count(0), 2);
        due("THINGS", x.count(1), 7);
        due("FREE ones", x.count(2), 4);
        due("ROWS", x.count(3), 2);
        due("NESTED ones", x.count(4), 1);
        due("PAIRED ones", x.count(5), 1);
        due("p", x.count(6), 101);
        x.clear(6);
        due("ROWS", x.count(3), 1);
        for (int w : outside(6)) {
            due("what " + w, x.count(w), BAD);
        }
    }

    private static void status() {
        promise = 30;
        FreeParts x = oneOfEach();
        due("status", x.status(), 0);
        x.kind(9);
        due("NULL", x.status(), 1);
        x.kind(10);
        x.sheet(0, 3, 0);
        x.block(0, 6);
        x.finer(0, 10);
        due("BAD leaves it", x.status(), 1);
        x.clear(9);
        x.is(0, 0);
        x.trace(0);
        x.count(0);
        x.number(0, 0, 1);
        x.join(0, 0, 0, 0);
        x.change(0, 0, 0, 0);
        x.hankel(0, 0);
        x.same(0, 0);
        x.genus(1, 0);
        x.mean(1, 0);
        x.walks(1, 0);
        x.status();
        due("what has no SHEET, no place of THE SHELF leaves it", x.status(), 1);
        x.nth(9, 3, 5);
        due("NONE is no FINDING", x.status(), 0);
        statusOfSheets(x);
        statusOfThings(x);
    }

    private static void statusOfSheets(FreeParts x) {
        x.sheet(0, 0, -1);
        due("SIZE", x.status(), 4);
        x.sheet(0, 0, 1);
        due("sheet", x.status(), 0);
        x.set(0, 1, 0);
        due("PLACE", x.status(), 2);
        x.set(0, 0, 0);
        due("set", x.status(), 0);
        x.sheet(1, 1, 1);
        x.copy(0, 0, 1, 0, 1);
        due("STORE", x.status(), 5);
        x.copy(0, 0, 0, 0, 1);
        due("copy", x.status(), 0);
        x.drop(2);
        due("NULL", x.status(), 1);
        x.drop(1);
        due("drop", x.status(), 0);
        x.part(9, 0, 1, 1);
        due("part", x.status(), 2);
        x.part(9, 0, 0, 1);
        due("part", x.status(), 0);
        x.series(0, 1, 0, 1, 0);
        due("series", x.status(), 1);
        x.series(0, 0, 0, 1, 0);
        due("series", x.status(), 0);
        x.series(0, 0, 1, 1, 0);
        due("series", x.status(), 2);
    }

    private static void statusOfThings(FreeParts x) {
        x.clear(9);
        x.as(0, 1);
        due("as", x.status(), 3);
        x.as(0, 0);
        due("as", x.status(), 0);
        x.both(9, 0, 0, 0);
        due("both", x.status(), 3);
        x.both(9, 1, 1, 0);
        due("both", x.status(), 0);
        x.turn(8, 0, 0);
        due("turn", x.status(), 3);
        x.turn(8, 0, 1);
        due("turn", x.status(), 0);
        x.told(0, 0);
        due("told", x.status(), 3);
        x.told(1, 0);
        due("told", x.status(), 0);
        x.handles(0);
        due("handles", x.status(), 3);
        x.handles(4);
        due("handles", x.status(), 0);
        x.clear(9);
        x.ask(9, 0);
        due("ask", x.status(), 1);
        x.ask(0, 0);
        due("ask", x.status(), 0);
        x.finer(0, 9);
        due("finer", x.status(), 1);
        x.finer(0, 1);
        due("finer", x.status(), 0);
        x.block(9, 0);
        due("block", x.status(), 1);
        x.block(0, 0);
        due("block", x.status(), 0);
        x.kind(9);
        x.nth(9, 3, 0);
        due("nth", x.status(), 0);
        x.handles(9);
        x.kind(9);
        due("kind", x.status(), 0);
    }
}
