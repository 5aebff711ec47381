/** The document's terms of SERIES, and promises 20 to 25. */
final class SeriesBoundaries {
    private static final int NONE = Run.NONE;
    private static final int[] SORTS = {NONE, 0, 1, 2};

    private SeriesBoundaries() {
    }

    static void all() {
        atFirst();
        cumulants();
        sums();
        products();
        scaled();
        pressed();
        determinants();
        series();
        seriesRefused();
        number();
        join();
        change();
        hankel();
        same();
    }

    // ---- terms

    private static void atFirst() {
        Sentences.term("SERIES, places 0 .. 7, of N numbers (1 to 8), modulo p, 0 to p - 1: the MOMENTS m(1) .. m(N) (m(0) is 1)");
        Run run = new Run(101).items(0, 2, -1, 0, 100, 101, 102, 202, -101, -102);
        for (int s = 0; s < 8; s++) {
            run.due("series(" + s + ", 0, 0, " + (s + 1) + ", NONE)", s + 1);
        }
        String[] read = {"100", "100 0", "100 0 100", "100 0 100 0", "100 0 100 0 1", "100 0 100 0 1 0", "100 0 100 0 1 0 0", "100 0 100 0 1 0 0 100"};
        for (int s = 0; s < 8; s++) {
            // HANKEL 0 is m(0).
            run.dueMoments(s, read[s]).due("hankel(" + s + ", 0)", 1).due("number(" + s + ", NONE, 0)", Run.BAD);
        }
        run.due("series(8, 0, 0, 1, NONE)", Run.BAD).due("series(-1, 0, 0, 1, NONE)", Run.BAD);
        run.due("series(0, 0, 0, 0, NONE)", Run.BAD).due("series(0, 0, 0, 9, NONE)", Run.BAD).dueMoments(0, "100");
        Sentences.term("at first N is 1, m(1) is 0.");
        Run fresh = new Run(101);
        for (int s = 0; s < 8; s++) {
            for (int sort : SORTS) {
                fresh.dueNumbers(s, sort, "0");
            }
            fresh.due("hankel(" + s + ", 0)", 1).due("hankel(" + s + ", 1)", Run.BAD).due("same(" + s + ", 0)", 1);
        }
        fresh.due("join(0, 1, 2, 3)", 1).due("change(3, 4, 0, 5)", 1).dueMoments(0, "0").dueMoments(3, "0");
    }

    private static void cumulants() {
        Sentences.term("CUMULANTS of sort 0 (each parting), 1 (FREE ones), 2 (ROWS): numbers k(1) .. k(N) so that m(n) is the sum over all"
            + " partings of n POINTS of that sort of the product over their BLOCKS of k(s), s POINTS each.");
        Run run = new Run(1000003);
        // How many partings of each sort there are.
        run.series(0, 0, 1, 1, 1, 1, 1, 1, 1, 1).dueMoments(0, "1 2 5 15 52 203 877 4140").dueNumbers(0, 0, "1 1 1 1 1 1 1 1");
        run.series(0, 1, 1, 1, 1, 1, 1, 1, 1, 1).dueMoments(0, "1 2 5 14 42 132 429 1430").dueNumbers(0, 1, "1 1 1 1 1 1 1 1");
        run.series(0, 2, 1, 1, 1, 1, 1, 1, 1, 1).dueMoments(0, "1 2 4 8 16 32 64 128").dueNumbers(0, 2, "1 1 1 1 1 1 1 1");
        // How many of them are pairs.
        run.series(0, 0, 0, 1, 0, 0, 0, 0, 0, 0).dueMoments(0, "0 1 0 3 0 15 0 105").dueNumbers(0, 0, "0 1 0 0 0 0 0 0");
        run.series(0, 1, 0, 1, 0, 0, 0, 0, 0, 0).dueMoments(0, "0 1 0 2 0 5 0 14").dueNumbers(0, 1, "0 1 0 0 0 0 0 0");
        run.series(0, 2, 0, 1, 0, 0, 0, 0, 0, 0).dueMoments(0, "0 1 0 1 0 1 0 1").dueNumbers(0, 2, "0 1 0 0 0 0 0 0");
        // Only the parting into one BLOCK counts.
        for (int sort = 0; sort < 3; sort++) {
            run.series(0, sort, 0, 0, 0, 0, 0, 0, 0, 7).dueMoments(0, "0 0 0 0 0 0 0 7");
            run.series(0, sort, 3).dueMoments(0, "3").dueNumbers(0, 0, "3").dueNumbers(0, 1, "3").dueNumbers(0, 2, "3");
        }
        sortsPart();
    }

    /** Of four POINTS the one parting that is not FREE counts; of three the one that is not ROWS. */
    private static void sortsPart() {
        Run run = new Run(1000003);
        run.series(0, NONE, 2, 7, 30, 100);
        // k2 = 7 - 4, k3 = 30 - 3 * 2 * 3 - 8, or with 2 pairs of neighbours alone 30 - 2 * 2 * 3 - 8
        run.dueNumbers(0, 0, "2 3 4 " + (1000003 + 100 - 4 * 2 * 4 - 3 * 9 - 6 * 4 * 3 - 16));
        run.dueNumbers(0, 1, "2 3 4 " + (1000003 + 100 - 4 * 2 * 4 - 2 * 9 - 6 * 4 * 3 - 16));
        run.dueNumbers(0, 2, "2 3 10 " + (1000003 + 100 - 2 * 2 * 10 - 9 - 3 * 4 * 3 - 16));
        // Round p, with the largest prime there is: k(1) is p - 1, all others 0, so that m(n) goes to and fro.
        Run big = new Run(Run.BIG);
        for (int sort = 0; sort < 3; sort++) {
            big.series(0, sort, -1, 0, 0, 0).dueMoments(0, Run.BIG - 1 + " 1 " + (Run.BIG - 1) + " 1").dueNumbers(0, sort, Run.BIG - 1 + " 0 0 0");
        }
        // All are p - 1: m(n) is how many partings have BLOCKS even in number, less how many have them odd.
        long[][] less = {{-1, 0, 1, 1, -2, -9, -9, 50}, {-1, 0, 1, 0, -2, 0, 5, 0}, {-1, 0, 0, 0, 0, 0, 0, 0}};
        for (int sort = 0; sort < 3; sort++) {
            big.series(0, sort, -1, -1, -1, -1, -1, -1, -1, -1).dueMoments(0, signed(less[sort]));
            big.series(0, NONE, less[sort]).dueNumbers(0, sort, signed(-1, -1, -1, -1, -1, -1, -1, -1));
        }
    }

    private static void sums() {
        Sentences.term("SUM of sort s of two SERIES (of the lesser N of both): CUMULANTS of that sort are added.");
        for (int sort = 0; sort < 3; sort++) {
            Run run = new Run(101).series(0, sort, 1, 2, 3, 4, 5, 6, 7, 8).series(1, sort, 100, 99, 98).series(2, sort, 100);
            run.due("join(3, 0, 1, " + sort + ")", 3).dueNumbers(3, sort, "0 0 0").dueMoments(3, "0 0 0");
            run.due("join(3, 1, 0, " + sort + ")", 3).dueNumbers(3, sort, "0 0 0");
            run.due("join(3, 0, 2, " + sort + ")", 1).dueNumbers(3, sort, "0");
            run.due("join(3, 2, 2, " + sort + ")", 1).dueNumbers(3, sort, "99");
            run.due("join(3, 0, 0, " + sort + ")", 8).dueNumbers(3, sort, "2 4 6 8 10 12 14 16");
            run.due("join(1, 1, 1, " + sort + ")", 3).dueNumbers(1, sort, "99 97 95");
        }
        // With what has no CUMULANTS all stays; a coin thrown twice tells the sorts apart.
        Run coin = new Run(1000003).series(0, NONE, 0, 1, 0, 1).series(1, NONE, 0, 0, 0, 0, 0, 0, 0, 0);
        String[] twice = {"0 2 0 8", "0 2 0 6", "0 2 0 4"};
        for (int sort = 0; sort < 3; sort++) {
            coin.due("join(2, 0, 0, " + sort + ")", 4).dueMoments(2, twice[sort]);
            coin.due("join(2, 0, 1, " + sort + ")", 4).dueMoments(2, "0 1 0 1");
        }
    }

    private static void products() {
        Sentences.term("PRODUCT (of the lesser N): CUMULANT n of sort 1 is the sum over all FREE partings of n POINTS of the product of the one's"
            + " CUMULANTS over its BLOCKS and of the other's over its COMPLEMENT's.");
        Run run = new Run(1000003).series(0, 1, 2, 3, 5).series(1, 1, 7, 11, 13, 17, 19, 23, 29, 31).series(2, 1, 4);
        String three = (2 * 7) + " " + (3 * 49 + 4 * 11) + " " + (5 * 343 + 3 * 3 * 2 * 11 * 7 + 8 * 13);
        run.due("join(3, 0, 1, 3)", 3).dueNumbers(3, 1, three).due("join(3, 1, 0, 3)", 3).dueNumbers(3, 1, three);
        run.due("join(3, 1, 2, 3)", 1).dueNumbers(3, 1, "28").dueMoments(3, "28").due("join(3, 2, 2, 3)", 1).dueNumbers(3, 1, "16");
        // One is what has k(1) = 1 alone; with k(1) = 0 on both sides nothing is left of two POINTS.
        run.series(4, 1, 1, 0, 0, 0, 0, 0, 0, 0).due("join(3, 1, 4, 3)", 8).due("same(3, 1)", 1).due("join(3, 4, 1, 3)", 8).due("same(3, 1)", 1);
        run.series(5, 1, 0, 1, 0, 0).due("join(3, 5, 5, 3)", 4).dueNumbers(3, 1, "0 0 0 0");
        run.due("join(3, 5, 4, 3)", 4).dueNumbers(3, 1, "0 1 0 0");
        // Chains of FREE ones: 1, 3, 12, 55, ..
        run.series(6, 1, 1, 1, 1, 1, 1, 1, 1, 1).due("join(3, 6, 6, 3)", 8).dueNumbers(3, 1, "1 2 5 14 42 132 429 1430");
        run.dueMoments(3, "1 3 12 55 273 1428 7752 43263");
        // k(1) is 0 on one side: of n POINTS only n even and pairs on that side: 1, 0, 2 times 1 or so.
        run.series(0, 1, 0, 1, 0, 0).due("join(3, 0, 6, 3)", 4).dueNumbers(3, 1, "0 1 0 2");
        Run big = new Run(Run.BIG).series(0, 1, -1, -1, -1, -1, -1, -1, -1, -1);
        big.due("join(0, 0, 0, 3)", 8).dueNumbers(0, 1, signed(1, -2, 5, -14, 42, -132, 429, -1430));
    }

    private static String signed(long... numbers) {
        StringBuilder text = new StringBuilder();
        for (long number : numbers) {
            text.append(text.length() == 0 ? "" : " ").append(Math.floorMod(number, (long) Run.BIG));
        }
        return text.toString();
    }

    private static void scaled() {
        Sentences.term("SCALED by c: m(n) times c to the power n.");
        Run run = new Run(Run.BIG).series(0, NONE, 1, 2, 3, 4, 5, 6, 7, 8);
        run.due("change(1, 0, 0, 2)", 8).dueMoments(1, "2 8 24 64 160 384 896 2048");
        run.due("change(1, 0, 0, 0)", 8).dueMoments(1, "0 0 0 0 0 0 0 0");
        run.due("change(1, 0, 0, 1)", 8).due("same(0, 1)", 1);
        run.due("change(1, 0, 0, " + (Run.BIG - 1) + ")", 8).dueMoments(1, signed(-1, 2, -3, 4, -5, 6, -7, 8));
        run.due("change(1, 7, 0, 5)", 1).dueMoments(1, "0").series(1, NONE, 3).due("change(1, 1, 0, 5)", 1).dueMoments(1, "15");
    }

    private static void pressed() {
        Sentences.term("PRESSED by t: CUMULANT n of sort 1 times t to the power n - 1.");
        Run run = new Run(Run.BIG).series(0, 1, 1, 2, 3, 4, 5, 6, 7, 8);
        run.due("change(1, 0, 1, 2)", 8).dueNumbers(1, 1, "1 4 12 32 80 192 448 1024");
        run.due("change(1, 0, 1, 1)", 8).due("same(0, 1)", 1);
        // By 0 the first one stays, as 0 to the power 0 is 1.
        run.due("change(1, 0, 1, 0)", 8).dueNumbers(1, 1, "1 0 0 0 0 0 0 0").dueMoments(1, "1 1 1 1 1 1 1 1");
        run.due("change(1, 0, 1, " + (Run.BIG - 1) + ")", 8).dueNumbers(1, 1, signed(1, -2, 3, -4, 5, -6, 7, -8));
        run.series(1, NONE, 3).due("change(1, 1, 1, 0)", 1).dueMoments(1, "3").due("change(1, 1, 1, 5)", 1).dueMoments(1, "3");
    }

    private static void determinants() {
        Sentences.term("HANKEL k: the determinant of m(i + j), i, j from 0 to k (2 k is N at most), modulo p.");
        Run run = new Run(1000003);
        run.series(0, 0, 0, 1, 0, 0, 0, 0, 0, 0).due("hankel(0, 0)", 1).due("hankel(0, 1)", 1).due("hankel(0, 2)", 2);
        run.due("hankel(0, 3)", 12).due("hankel(0, 4)", 288).due("hankel(0, 5)", Run.BAD);
        run.series(0, 1, 1, 1, 1, 1, 1, 1, 1, 1);
        for (int k = 0; k <= 4; k++) {
            run.due("hankel(0, " + k + ")", 1);
        }
        run.series(0, NONE, 1, 1, 1, 1, 1, 1, 1, 1).due("hankel(0, 0)", 1).due("hankel(0, 1)", 0).due("hankel(0, 4)", 0);
        // N odd: 2 k is one less at most. Below 0 it goes round p.
        run.series(0, NONE, 2, 1, 5).due("hankel(0, 1)", 1000003 - 3).due("hankel(0, 2)", Run.BAD);
        run.series(0, NONE, 7).due("hankel(0, 0)", 1).due("hankel(0, 1)", Run.BAD);
        run.series(0, NONE, 7, 50).due("hankel(0, 1)", 1).due("hankel(0, 2)", Run.BAD);
        // Where rows must change places: by one change, and by two.
        run.series(0, NONE, 0, 0, 3, 8).due("hankel(0, 1)", 0).due("hankel(0, 2)", 1000003 - 9);
        run.series(0, NONE, 0, 0, 0, 2, 0, 0).due("hankel(0, 2)", 0).due("hankel(0, 3)", 1000003 - 8);
        run.series(0, NONE, 0, 0, 0, 0, 2, 0, 0, 0).due("hankel(0, 3)", 0).due("hankel(0, 4)", 16);
        Run big = new Run(Run.BIG).series(0, NONE, -1, -2).due("hankel(0, 1)", Run.BIG - 3).series(0, NONE, -1, 1).due("hankel(0, 1)", 0);
        big.series(0, NONE, 0, -1, 0, -1).due("hankel(0, 2)", 2);
    }

    // ---- promises

    private static void series() {
        Sentences.promise(20, "A SERIES gets N numbers, ITEMS of a SHEET from i on, modulo p (0 to p - 1), as MOMENTS (sort = NONE), as CUMULANTS of a sort: N.");
        for (int sort : SORTS) {
            Full.due("series(0, 2, 9, 1, " + sort + ")", 1, "series 0");
            Full.due("series(7, 2, 2, 8, " + sort + ")", 8, "series 7");
            Full.due("series(3, 0, 4, 1, " + sort + ")", 1, "series 3");
            Run run = new Run(101).items(0, 2, 1, 2, 3, 4, 5, 6, 7, 8, 9, -1, 101, 100, Long.MIN_VALUE, Long.MAX_VALUE);
            run.due("series(0, 0, 0, 8, " + sort + ")", 8).dueNumbers(0, sort, "1 2 3 4 5 6 7 8");
            run.due("series(0, 0, 6, 8, " + sort + ")", 8).dueNumbers(0, sort, "7 8 9 100 0 100 "
                + Math.floorMod(Long.MIN_VALUE, 101L) + " " + Long.MAX_VALUE % 101);
            run.due("series(0, 0, 13, 1, " + sort + ")", 1).dueNumbers(0, sort, Long.toString(Long.MAX_VALUE % 101));
            run.items(1, 0, -128, 127).due("series(7, 1, 0, 2, " + sort + ")", 2).dueNumbers(7, sort, "74 26");
            run.items(1, 1, Integer.MIN_VALUE).due("series(7, 1, 0, 1, " + sort + ")", 1).dueNumbers(7, sort, Long.toString(Math.floorMod(Integer.MIN_VALUE, 101L)));
        }
        Run run = new Run(101).does("sheet(0, 0, 40)", "set(0, 32, 1)", "set(0, 39, 8)").due("series(0, 0, 32, 8, NONE)", 8).dueMoments(0, "1 0 0 0 0 0 0 8");
        // From N 8 to N 1 and back: what is left from ahead is not there.
        run.due("series(0, 0, 39, 1, NONE)", 1).dueMoments(0, "8").due("series(0, 0, 0, 2, NONE)", 2).dueMoments(0, "0 0");
        // It keeps its numbers when the SHEET is gone.
        run.does("set(0, 0, 9)", "drop(0)").dueMoments(0, "0 0");
    }

    private static void seriesRefused() {
        Sentences.promise(20, "BAD: SERIES, SHEET, N, sort");
        for (int sheet : new int[] {0, 5}) {
            Full.outside("series(#, " + sheet + ", 0, 1, 0)", 0, 7, Run.BAD);
            Full.outside("series(0, " + sheet + ", 0, #, 1)", 1, 8, Run.BAD);
            Full.outside("series(0, " + sheet + ", 0, #, NONE)", 1, 8, Run.BAD);
            Full.outside("series(0, " + sheet + ", 0, 1, #)", 0, 2, Run.BAD);
        }
        Full.outside("series(0, #, 0, 1, NONE)", 0, 7, Run.BAD);
        Full.outside("series(0, #, -1, 1, 2)", 0, 7, Run.BAD);
        Full.outside("series(0, 2, -1, #, 2)", 1, 8, Run.BAD);
        Full.outside("series(0, 2, 0, 1, #)", Run.NONE, Run.NONE, Run.BAD);
        Full.due("series(0, 2, 0, -1, NONE)", Run.BAD);
        Sentences.promise(20, "NULL");
        for (int sort : SORTS) {
            Full.due("series(0, 5, 0, 1, " + sort + ")", Run.NULL);
            Full.due("series(0, 7, -1, 8, " + sort + ")", Run.NULL);
        }
        Sentences.promise(20, "PLACE");
        for (int sort : SORTS) {
            Full.due("series(0, 0, -1, 1, " + sort + ")", Run.PLACE);
            Full.due("series(0, 0, 5, 1, " + sort + ")", Run.PLACE);
            Full.due("series(0, 0, 0, 6, " + sort + ")", Run.PLACE);
            Full.due("series(0, 0, 1, 5, " + sort + ")", Run.PLACE);
            Full.due("series(0, 2, 3, 8, " + sort + ")", Run.PLACE);
            Full.due("series(0, 3, 0, 1, " + sort + ")", Run.PLACE);
            Full.due("series(0, 2, MAX, 8, " + sort + ")", Run.PLACE);
            Full.due("series(0, 2, MIN, 8, " + sort + ")", Run.PLACE);
        }
        new Run(101).does("sheet(0, 0, 40)").due("series(0, 0, 33, 8, 0)", Run.PLACE).due("series(0, 0, 40, 1, 0)", Run.PLACE).due("series(0, 0, 32, 8, 0)", 8);
        new Run(101).does("sheet(0, 0, 40)", "sheet(0, 0, 2)").due("series(0, 0, 0, 3, 0)", Run.PLACE).due("series(0, 0, 0, 2, 0)", 2);
    }

    private static void number() {
        Sentences.promise(21, "MOMENT k (sort = NONE), CUMULANT k of a sort (1 to N).");
        Run run = new Run(1000003).series(0, NONE, 1, 2, 5, 15, 52, 203, 877, 4140).series(1, NONE, 9);
        for (int k = 1; k <= 8; k++) {
            run.due("number(0, 0, " + k + ")", 1);
        }
        run.dueMoments(0, "1 2 5 15 52 203 877 4140");
        run.series(0, NONE, 1, 2, 5, 14, 42, 132, 429, 1430).dueNumbers(0, 1, "1 1 1 1 1 1 1 1").dueNumbers(0, 2, "1 1 2 5 14 42 132 429");
        // In any order, and only as far as k.
        run.due("number(0, 1, 8)", 1).due("number(0, 2, 1)", 1).due("number(0, 2, 8)", 429).due("number(0, 0, 4)", 0);
        for (int sort : SORTS) {
            run.dueNumbers(1, sort, "9");
            Full.due("number(1, " + sort + ", 1)", 7);
        }
        Sentences.promise(21, "BAD as a long.");
        for (int sort : SORTS) {
            Full.outside("number(#, " + sort + ", 1)", 0, 7, Run.BAD);
            Full.outside("number(0, " + sort + ", #)", 1, 8, Run.BAD);
            Full.outside("number(1, " + sort + ", #)", 1, 4, Run.BAD);
            Full.outside("number(3, " + sort + ", #)", 1, 1, Run.BAD);
            Full.outside("number(7, " + sort + ", #)", 1, 1, Run.BAD);
            Full.due("number(3, " + sort + ", 8)", Run.BAD);
        }
        Full.outside("number(0, #, 1)", 0, 2, Run.BAD);
        Full.outside("number(0, #, 1)", Run.NONE, Run.NONE, Run.BAD);
        Full.due("number(0, BAD, 1)", Run.BAD);
        // Once longer, it has no more numbers than it has now.
        Run shorter = new Run(101).series(0, NONE, 1, 2, 3, 4, 5, 6, 7, 8).series(1, NONE, 5).does("join(0, 0, 1, 0)");
        shorter.due("number(0, NONE, 1)", 6).due("number(0, NONE, 2)", Run.BAD).due("number(0, 1, 2)", Run.BAD);
    }

    private static void join() {
        Sentences.promise(22, "A SERIES becomes the SUM of a sort (0 to 2), the PRODUCT (3), of two: N.");
        for (int how = 0; how < 4; how++) {
            Full.due("join(7, 0, 1, " + how + ")", 4, "series 7");
            Full.due("join(0, 3, 0, " + how + ")", 1, "series 0");
            Full.due("join(2, 0, 0, " + how + ")", 8, "series 2");
            Full.due("join(1, 1, 1, " + how + ")", 4, "series 1");
        }
        // To where the one stands, or the other, or both.
        for (int how = 0; how < 4; how++) {
            Run run = new Run(1000003).series(0, NONE, 2, 7, 30, 100, 5, 6, 7, 8).series(1, NONE, 3, 11, 50, 200, 1, 2, 3, 4);
            run.does("join(2, 0, 1, " + how + ")", "change(3, 0, 0, 1)", "change(4, 1, 0, 1)");
            run.due("join(3, 3, 1, " + how + ")", 8).due("same(3, 2)", 1).due("join(4, 0, 4, " + how + ")", 8).due("same(4, 2)", 1);
            run.does("join(5, 0, 0, " + how + ")", "change(6, 0, 0, 1)").due("join(6, 6, 6, " + how + ")", 8).due("same(6, 5)", 1).due("same(2, 5)", 0);
        }
        Sentences.promise(22, "BAD.");
        for (int how = 0; how < 4; how++) {
            Full.outside("join(#, 0, 1, " + how + ")", 0, 7, Run.BAD);
            Full.outside("join(0, #, 1, " + how + ")", 0, 7, Run.BAD);
            Full.outside("join(0, 1, #, " + how + ")", 0, 7, Run.BAD);
        }
        Full.outside("join(0, 1, 2, #)", 0, 3, Run.BAD);
        Full.due("join(0, 1, 2, NONE)", Run.BAD);
    }

    private static void change() {
        Sentences.promise(23, "A SERIES becomes another one SCALED (how = 0), PRESSED (1) by c (0 to p - 1): N.");
        for (int how = 0; how < 2; how++) {
            Full.due("change(7, 0, " + how + ", 2)", 8, "series 7");
            Full.due("change(0, 3, " + how + ", 0)", 1, "series 0");
            Full.due("change(1, 1, " + how + ", " + (Run.BIG - 1) + ")", 4, "series 1");
            Full.due("change(1, 1, " + how + ", 1)", 4);
        }
        Run run = new Run(101).series(0, NONE, 1, 3, 6).due("change(1, 0, 0, 100)", 3).dueMoments(1, "100 3 95");
        // k(2) is 2, k(3) is 6 - 3 * 2 - 1 = -1
        run.due("change(1, 0, 1, 100)", 3).dueNumbers(1, 1, "1 99 100").due("change(1, 0, 1, 0)", 3).dueMoments(1, "1 1 1");
        run.due("change(0, 0, 0, 0)", 3).dueMoments(0, "0 0 0");
        new Run(100).due("change(0, 0, 0, 998244352)", 1).due("change(0, 0, 0, 998244353)", Run.BAD);
        Sentences.promise(23, "BAD.");
        for (int how = 0; how < 2; how++) {
            Full.outside("change(#, 0, " + how + ", 2)", 0, 7, Run.BAD);
            Full.outside("change(0, #, " + how + ", 2)", 0, 7, Run.BAD);
            Full.outside("change(0, 1, " + how + ", #)", 0, Run.BIG - 1, Run.BAD);
            new Run(101).due("change(0, 0, " + how + ", 100)", 1).due("change(0, 0, " + how + ", 101)", Run.BAD).due("change(0, 0, " + how + ", 102)", Run.BAD);
        }
        Full.outside("change(0, 1, #, 2)", 0, 1, Run.BAD);
        Full.due("change(0, 1, NONE, 2)", Run.BAD);
    }

    private static void hankel() {
        Sentences.promise(24, "HANKEL k.");
        // SERIES 1 has 7, 7, 70000, -9; SERIES 3 has N 1.
        Full.due("hankel(1, 0)", 1);
        Full.due("hankel(1, 1)", Run.BIG + 7 - 49);
        Full.due("hankel(3, 0)", 1);
        Full.due("hankel(7, 0)", 1);
        long m2 = 7, m3 = 70000, m4 = -9;
        long det = m2 * m4 - m3 * m3 - 7 * (7 * m4 - m3 * m2) + m2 * (7 * m3 - m2 * m2);
        Full.due("hankel(1, 2)", Math.floorMod(det, (long) Run.BIG));
        Sentences.promise(24, "BAD as a long: SERIES, k (0 on).");
        Full.outside("hankel(#, 0)", 0, 7, Run.BAD);
        Full.outside("hankel(0, #)", 0, 4, Run.BAD);
        Full.outside("hankel(1, #)", 0, 2, Run.BAD);
        Full.outside("hankel(2, #)", 0, 2, Run.BAD);
        Full.outside("hankel(3, #)", 0, 0, Run.BAD);
        Full.outside("hankel(7, #)", 0, 0, Run.BAD);
        // Twice k goes round as an int: 0, and 2.
        Full.due("hankel(0, -2147483648)", Run.BAD);
        Full.due("hankel(0, -2147483647)", Run.BAD);
        Full.due("hankel(0, 1073741824)", Run.BAD);
        Full.due("hankel(0, 1073741825)", Run.BAD);
        // Once longer, it has no more numbers than it has now.
        new Run(101).series(0, NONE, 1, 2, 3, 4, 5, 6, 7, 8).series(1, NONE, 5, 5).does("join(0, 0, 1, 0)").due("hankel(0, 2)", Run.BAD);
    }

    private static void same() {
        Sentences.promise(25, "Whether two SERIES have one N and the same MOMENTS: 1, 0.");
        for (int s = 0; s < 8; s++) {
            Full.due("same(" + s + ", " + s + ")", 1);
        }
        Full.due("same(4, 7)", 1);
        Full.due("same(3, 4)", 0);
        Full.due("same(0, 7)", 0);
        Run run = new Run(101).series(0, NONE, 1, 2, 3, 4, 5, 6, 7, 8).series(1, NONE, 1, 2, 3, 4, 5, 6, 7, 9).due("same(0, 1)", 0).due("same(1, 0)", 0);
        run.series(1, NONE, 2, 2, 3, 4, 5, 6, 7, 8).due("same(0, 1)", 0).series(1, NONE, 102, 2, 3, 4, 5, 6, 7, -93).due("same(0, 1)", 1);
        // One is the other's beginning.
        run.series(1, NONE, 1, 2, 3, 4, 5, 6, 7).due("same(0, 1)", 0).due("same(1, 0)", 0);
        run.series(1, NONE, 0, 0).due("same(1, 7)", 0).due("same(7, 1)", 0).series(1, NONE, 0).due("same(1, 7)", 1);
        // What stood behind N from ahead does not count.
        run.series(0, NONE, 1, 2).series(2, NONE, 1, 2).due("same(0, 2)", 1);
        // Told by other CUMULANTS, but the same MOMENTS.
        run.series(0, 1, 1, 1, 1).series(2, 0, 1, 1, 1).due("same(0, 2)", 1);
        Sentences.promise(25, "BAD.");
        Full.outside("same(#, 0)", 0, 7, Run.BAD);
        Full.outside("same(0, #)", 0, 7, Run.BAD);
        Full.outside("same(#, #)", 0, 7, Run.BAD);
    }
}
