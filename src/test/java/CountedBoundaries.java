import java.math.BigInteger;

/** Promise 1, the terms of GENUS, MEAN and WALKS, and promises 26 to 30. */
final class CountedBoundaries {
    private static final long[][] GENUS = {
        {1}, {2, 1}, {5, 10}, {14, 70, 21}, {42, 420, 483}, {132, 2310, 6468, 1485}, {429, 12012, 66066, 56628},
        {1430, 60060, 570570, 1169740, 225225}, {4862, 291720, 4390386, 17454580, 12317877},
        {16796, 1385670, 31039008, 211083730, 351683046, 59520825}};

    /** By r, for 0, 2, 4, .. 12 steps. */
    private static final long[][] WALKS = {
        {1, 2, 6, 20, 70, 252, 924}, {1, 4, 28, 232, 2092, 19864, 195352},
        {1, 6, 66, 876, 12786, 197796, 3183156}, {1, 8, 120, 2192, 44248, 949488, 21237168}};

    private CountedBoundaries() {
    }

    static void all() {
        newObject();
        genusTerm();
        meanTerm();
        walksTerm();
        genus();
        mean();
        walks();
        count();
        statusOfSheets();
        statusOfPlaces();
        statusLeft();
    }

    // ---- 1

    private static void newObject() {
        Sentences.promise(1, "Modulo p, if that is a prime from 101 to 2000000000");
        // The least, the largest, and those next to squares and to small divisors.
        for (int p : new int[] {101, 103, 107, 109, 113, 127, 131, 997, 7919, 10007, 44699, 44701, 65537, 1000003, 998244353, 1000000007,
            1999999871, 1999999943, 1999999973}) {
            new Run(p).due("count(6)", p).series(0, Run.NONE, -1, p, 2L * p + 1).dueMoments(0, p - 1 + " 0 1");
        }
        Sentences.promise(1, "else 998244353.");
        int[] refused = {
            Integer.MIN_VALUE, -998244353, -103, -101, -1, 0, 1, 2, 3, 5, 7, 11, 89, 97, 98, 99, 100,
            102, 104, 105, 106, 110, 111, 115, 119, 121, 133, 143, 169, 221, 289, 323, 361, 529, 841, 899, 10201, 10403, 11021, 561, 1105, 1729, 2047, 1373653, 1194649, 12327121, 25326001,
            1998000601, 1998179401, 1999073521, 1999999971, 1999999974, 1999999975, 1999999999, 2000000000, 2000000001, 2000000011,
            2147483629, Integer.MAX_VALUE};
        for (int p : refused) {
            new Run(p).due("count(6)", 998244353).series(0, Run.NONE, -1, 998244353L).dueMoments(0, "998244352 0");
        }
    }

    // ---- terms

    private static void genusTerm() {
        Sentences.term("GENUS: how many partings of 2 h POINTS (h 1 to 10) into pairs have g HANDLES.");
        Run run = new Run(101);
        long all = 1;
        for (int h = 1; h <= 10; h++) {
            all *= 2 * h - 1;
            long sum = 0;
            for (int g = 0; g <= h; g++) {
                sum += run.call("genus(" + h + ", " + g + ")");
            }
            Sentences.due("all pairings of " + 2 * h, sum, all);
        }
        run.due("genus(0, 0)", Run.BAD).due("genus(11, 0)", Run.BAD);
    }

    private static BigInteger meanOf(int h, int x) {
        BigInteger sum = BigInteger.ZERO;
        for (int g = 0; g < GENUS[h - 1].length; g++) {
            sum = sum.add(BigInteger.valueOf(GENUS[h - 1][g]).multiply(BigInteger.valueOf(x).pow(h + 1 - 2 * g)));
        }
        return sum;
    }

    private static void dueMean(int p, int h, int x) {
        new Run(p).due("mean(" + h + ", " + x + ")", meanOf(h, x).mod(BigInteger.valueOf(p)).longValue());
    }

    private static void meanTerm() {
        Sentences.term("MEAN: the sum over g of GENUS times x to the power h + 1 - 2 g.");
        Run run = new Run(Run.BIG);
        // The least powers: x for h even, its square for h odd.
        run.due("mean(1, 7)", 49).due("mean(2, 7)", 2 * 343 + 7).due("mean(3, 2)", 5 * 16 + 10 * 4).due("mean(4, 2)", 14 * 32 + 70 * 8 + 21 * 2);
        for (int h = 1; h <= 10; h++) {
            run.due("mean(" + h + ", 0)", 0);
            dueMean(Run.BIG, h, 1);
            dueMean(Run.BIG, h, 2);
            dueMean(Run.BIG, h, 1000);
        }
    }

    private static void walksTerm() {
        Sentences.term("WALKS: rows of n steps (0 to 12), each one of 2 r (r 1 to 4), on a tree of which each knot has 2 r ways, that come back to where they began.");
        Run run = new Run(101);
        for (int r = 1; r <= 4; r++) {
            for (int n = 0; n <= 12; n++) {
                run.due("walks(" + r + ", " + n + ")", n % 2 == 1 ? 0 : WALKS[r - 1][n / 2]);
            }
        }
    }

    // ---- 26 to 29

    private static void genus() {
        Sentences.promise(26, "GENUS.");
        for (int h = 1; h <= 10; h++) {
            Run run = new Run(101);
            for (int g = 0; g <= 12; g++) {
                run.due("genus(" + h + ", " + g + ")", g < GENUS[h - 1].length ? GENUS[h - 1][g] : 0);
            }
            // More HANDLES than there can be: none, however many.
            run.due("genus(" + h + ", 100)", 0).due("genus(" + h + ", MAX)", 0);
        }
        Full.due("genus(10, 5)", 59520825);
        Full.due("genus(1, 1)", 0);
        Sentences.promise(26, "BAD as a long: h, g (below 0).");
        Full.outside("genus(#, 0)", 1, 10, Run.BAD);
        Full.outside("genus(#, 7)", 1, 10, Run.BAD);
        for (int h : new int[] {1, 10}) {
            Full.due("genus(" + h + ", -1)", Run.BAD);
            Full.due("genus(" + h + ", MIN)", Run.BAD);
        }
        Full.due("genus(0, -1)", Run.BAD);
        Full.due("genus(-1, 0)", Run.BAD);
    }

    private static void mean() {
        Sentences.promise(27, "MEAN, modulo p, for x 0 to 1000.");
        for (int p : new int[] {101, 103, 997, 1000003, 998244353, Run.BIG}) {
            for (int h : new int[] {1, 2, 9, 10}) {
                for (int x : new int[] {0, 1, 2, 100, 101, 102, 999, 1000}) {
                    dueMean(p, h, x);
                }
            }
        }
        Full.due("mean(10, 1000)", meanOf(10, 1000).mod(BigInteger.valueOf(Run.BIG)).longValue());
        Full.due("mean(1, 0)", 0);
        Sentences.promise(27, "BAD as a long: h, x.");
        Full.outside("mean(#, 1)", 1, 10, Run.BAD);
        Full.outside("mean(1, #)", 0, 1000, Run.BAD);
        Full.outside("mean(10, #)", 0, 1000, Run.BAD);
        Full.due("mean(0, -1)", Run.BAD);
    }

    private static void walks() {
        Sentences.promise(28, "WALKS.");
        for (int r = 1; r <= 4; r++) {
            Full.due("walks(" + r + ", 0)", 1);
            Full.due("walks(" + r + ", 1)", 0);
            Full.due("walks(" + r + ", 11)", 0);
            Full.due("walks(" + r + ", 12)", WALKS[r - 1][6]);
        }
        // Not modulo p, and each one from the beginning.
        new Run(101).due("walks(4, 12)", 21237168).due("walks(1, 2)", 2).due("walks(4, 12)", 21237168).due("walks(1, 0)", 1);
        Sentences.promise(28, "BAD as a long: r, n.");
        Full.outside("walks(#, 0)", 1, 4, Run.BAD);
        Full.outside("walks(#, 12)", 1, 4, Run.BAD);
        Full.outside("walks(1, #)", 0, 12, Run.BAD);
        Full.outside("walks(4, #)", 0, 12, Run.BAD);
    }

    private static void count() {
        Sentences.promise(29, "How many: 0 SHEETS, 1 THINGS, 2 FREE ones (ROWS, NESTED ones, too), 3 ROWS, 4 NESTED ones, 5 PAIRED ones, as they are told, 6 p.");
        int[] full = {5, 8, 6, 3, 1, 1, Run.BIG};
        Run none = new Run(101);
        for (int what = 0; what < 7; what++) {
            Full.due("count(" + what + ")", full[what]);
            none.due("count(" + what + ")", what == 6 ? 101 : 0);
        }
        // A SHEET without ITEMS is there; all SHEETS, all places.
        none.does("sheet(7, 2, 0)").due("count(0)", 1).does("drop(7)").due("count(0)", 0);
        for (int s = 0; s < 8; s++) {
            none.does("sheet(" + s + ", 0, 0)");
        }
        none.due("count(0)", 8);
        for (int place = 0; place < 10; place++) {
            none.does("nth(" + place + ", 4, 7)");
        }
        none.due("count(1)", 10).due("count(2)", 10).due("count(3)", 0).due("count(4)", 10).due("count(5)", 0);
        // Pairs in ROWS are told as ROWS; what is put over something else takes its place.
        none.does("turn(0, 0, 1)").due("count(2)", 10).due("count(3)", 1).due("count(4)", 9);
        none.thing(1, "0101").due("count(1)", 10).due("count(2)", 9).due("count(4)", 8).due("count(5)", 1);
        none.thing(1, "01012").due("count(1)", 10).due("count(2)", 9).due("count(5)", 0).does("clear(1)").due("count(1)", 9);
        Sentences.promise(29, "BAD.");
        Full.outside("count(#)", 0, 6, Run.BAD);
        Full.due("count(NONE)", Run.BAD);
    }

    // ---- 30

    private static void statusOfSheets() {
        Sentences.promise(30, "Of the latest call with a SHEET or a place of THE SHELF (but clear(), is()) that was not BAD: the number of its FINDING");
        dueStatus("sheet(0, 0, -1)", 4);
        dueStatus("set(5, 0, 0)", 1);
        dueStatus("set(0, 5, 0)", 2);
        dueStatus("copy(0, 0, 5, 0, 0)", 1);
        dueStatus("copy(5, 0, 0, 0, 0)", 1);
        dueStatus("copy(0, 0, 1, 0, 0)", 5);
        dueStatus("copy(0, 0, 4, 0, 4)", 2);
        dueStatus("drop(5)", 1);
        dueStatus("part(0, 5, 0, 1)", 1);
        dueStatus("part(0, 0, 0, 6)", 2);
        dueStatus("series(0, 5, 0, 1, 0)", 1);
        dueStatus("series(0, 0, 0, 6, 0)", 2);
    }

    private static void statusOfPlaces() {
        dueStatus("both(0, 8, 1, 0)", 1);
        dueStatus("both(0, 1, 8, 0)", 1);
        dueStatus("both(0, 4, 1, 0)", 3);
        dueStatus("both(0, 1, 4, 0)", 3);
        dueStatus("turn(0, 8, 0)", 1);
        dueStatus("turn(0, 8, 1)", 1);
        dueStatus("turn(0, 4, 0)", 3);
        dueStatus("kind(8)", 1);
        dueStatus("as(8, 0)", 1);
        dueStatus("as(0, 1)", 3);
        dueStatus("ask(8, 0)", 1);
        dueStatus("block(8, 0)", 1);
        dueStatus("told(8, 0)", 1);
        dueStatus("told(4, 0)", 3);
        dueStatus("finer(8, 0)", 1);
        dueStatus("finer(0, 8)", 1);
        dueStatus("handles(8)", 1);
        dueStatus("handles(1)", 3);
        Sentences.promise(30, "0: it had none, or there was none.");
        new Run(101).due("status()", 0).due("status()", 0);
        for (String text : new String[] {"sheet(0, 0, 1)", "set(0, 0, 0)", "copy(0, 0, 4, 0, 1)", "drop(0)", "part(0, 0, 0, 1)", "nth(0, 1, 0)", "nth(0, 1, 1)",
            "nth(0, 1, -1)", "both(0, 1, 2, 0)", "both(0, 1, 2, 1)", "turn(0, 0, 1)", "turn(0, 1, 0)", "kind(0)", "as(0, 0)", "ask(0, 0)", "ask(0, 1)",
            "block(0, 0)", "told(1, 0)", "told(1, 1)", "told(1, 2)", "told(1, 3)", "finer(0, 0)", "handles(4)", "series(0, 0, 0, 1, 0)",
            "series(0, 0, 0, 1, NONE)"}) {
            dueStatus(text, 0);
        }
        // Refused from the first on: there was none.
        new Run(101).does("kind(10)", "sheet(8, 0, 0)", "clear(0)", "is(0, 0)", "trace(0)", "count(0)").due("status()", 0);
    }

    private static void dueStatus(String text, int want) {
        for (int latest : new int[] {1, 4}) {
            Run run = Full.make(latest).due("status()", latest).does(text);
            Sentences.due("status() behind " + text, run.call("status()"), want);
            run.due("status()", want);
        }
    }

    private static void statusLeft() {
        Sentences.promise(30, "(but clear(), is()) that was not BAD");
        String[] left = {"clear(0)", "clear(8)", "clear(10)", "is(0, 0)", "is(8, 0)", "is(0, 4)", "is(10, 0)", "is(0, 5)",
            "sheet(8, 0, 0)", "sheet(0, 3, 0)", "sheet(0, 0, 41)", "set(8, 0, 0)", "copy(8, 0, 0, 0, 0)", "copy(0, 0, 8, 0, 0)", "drop(8)",
            "part(10, 0, 0, 1)", "part(0, 8, 0, 1)", "part(0, 0, 0, 0)", "part(0, 0, 0, 11)", "nth(10, 1, 0)", "nth(0, 0, 0)", "nth(0, 11, 0)",
            "both(10, 1, 2, 0)", "both(0, 10, 2, 0)", "both(0, 1, 10, 0)", "both(0, 1, 2, 2)", "both(0, 1, 5, 0)", "turn(10, 1, 0)", "turn(0, 10, 0)",
            "turn(0, 1, 2)", "kind(10)", "as(10, 0)", "as(0, 5)", "ask(10, 0)", "ask(0, 2)", "block(10, 0)", "block(0, 5)", "block(0, -1)",
            "told(10, 0)", "told(1, 4)", "finer(10, 0)", "finer(0, 10)", "finer(0, 1)", "handles(10)", "series(8, 0, 0, 1, 0)", "series(0, 8, 0, 1, 0)",
            "series(0, 0, 0, 0, 0)", "series(0, 0, 0, 1, 3)"};
        for (String text : left) {
            dueStatusLeft(text);
        }
        // What has neither a SHEET nor a place of THE SHELF does not count, whether it is BAD or not.
        for (String text : new String[] {"trace(0)", "trace(16)", "number(0, 0, 1)", "number(0, 0, 9)", "join(0, 1, 2, 3)", "join(0, 1, 2, 4)", "change(0, 1, 1, 1)",
            "change(0, 1, 1, -1)", "hankel(0, 4)", "hankel(0, 5)", "same(0, 1)", "same(0, 8)", "genus(1, 0)", "genus(0, 0)", "mean(1, 1)", "mean(0, 1)",
            "walks(1, 1)", "walks(0, 1)", "count(0)", "count(7)", "status()"}) {
            dueStatusLeft(text);
        }
    }

    private static void dueStatusLeft(String text) {
        for (int latest : new int[] {1, 4}) {
            Run run = Full.make(latest).does(text);
            Sentences.due("status() behind " + text, run.call("status()"), latest);
        }
        Run fine = Full.make(1).does("kind(0)", text);
        Sentences.due("status() behind kind(0), " + text, fine.call("status()"), 0);
    }
}
