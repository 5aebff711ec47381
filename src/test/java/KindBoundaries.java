/** The document's terms of THINGS: KINDS, ORDER, the lattice, COMPLEMENT, TURNED, WEIGHT, HANDLES, ASKS. */
final class KindBoundaries {
    private static final int[] MANY = {1, 1, 2, 5, 14, 42, 132, 429, 1430, 4862, 16796};
    private static final String[] FOURS = {"0000", "0001", "0010", "0011", "0012", "0100", "0102", "0110", "0111", "0112",
        "0120", "0121", "0122", "0123"};
    private static final String ALONE = "0123456789";
    private static final String ONE = "0000000000";

    private KindBoundaries() {
    }

    static void all() {
        free();
        rows();
        nested();
        paired();
        toldAs();
        order();
        howMany();
        finer();
        meet();
        join();
        complement();
        complementTwice();
        turned();
        weight();
        weightsAddUp();
        under();
        over();
        handles();
        asks();
        bodies();
        whichBody();
    }

    private static void dueKinds(int kind, String... things) {
        Run run = new Run(101);
        for (String blocks : things) {
            run.thing(0, blocks);
            Sentences.due("kind of " + blocks, run.call("kind(0)"), kind);
        }
    }

    private static void free() {
        Sentences.term("1 FREE, a THING: there are no POINTS a < b < c < d with a, c in one BLOCK, b, d in another one.");
        Run run = new Run(101);
        // Of three POINTS or fewer none crosses; of four the first one does.
        for (String blocks : new String[] {"0", "00", "01", "000", "001", "010", "011", "012", "0000", "0010", "0100", "0120", "0121"}) {
            run.thing(0, blocks).due("is(0, 1)", 1);
        }
        run.thing(0, "0101").due("is(0, 1)", 0);
        // a is the first POINT, d the last one, of ten, with all that is between in c's and b's way.
        run.thing(0, "0123456701").due("is(0, 1)", 0);
        run.thing(0, "0123456710").due("is(0, 1)", 1);
        run.thing(0, "0111111101").due("is(0, 1)", 0);
        run.thing(0, "0100000001").due("is(0, 1)", 0);
        run.thing(0, "0111111110").due("is(0, 1)", 1);
        run.thing(0, "0123454321").due("is(0, 1)", 1);
        run.thing(0, "0123453421").due("is(0, 1)", 0);
        run.thing(0, "0123456897").due("is(0, 1)", 1);
        run.thing(0, "0123456787").due("is(0, 1)", 1);
        run.thing(0, "0123456767").due("is(0, 1)", 0);
        dueKinds(Run.FREE, "010", "0010", "0100", "0102", "0120", "01000", "0123456780");
        dueKinds(Run.THING, "01010", "01012", "00101", "01001", "01101", "0123456767");
    }

    private static void rows() {
        Sentences.term("2 ROWS, a FREE one: each BLOCK's POINTS stand one behind the other.");
        dueKinds(Run.ROWS, "0", "00", "01", "000", "001", "011", "012", ONE, ALONE, "0000011111", "0111111111", "0000000001", "0011223344");
        // A BLOCK round the ring's end does not stand one behind the other.
        dueKinds(Run.FREE, "010", "0100", "0010", "0120", "0000000010", "0100000000", "0122222220");
    }

    private static void nested() {
        Sentences.term("3 NESTED, a FREE one: each BLOCK has two POINTS.");
        dueKinds(Run.NESTED, "0110", "001221", "011022", "012210", "0112233440", "0123443210", "0011233244");
        // One BLOCK with another number of POINTS is enough.
        dueKinds(Run.FREE, "01120", "01110", "0100", "0112203334", "0112233040");
        Run run = new Run(101).thing(0, "0110").due("is(0, 3)", 1).due("is(0, 1)", 1).due("is(0, 2)", 0).due("is(0, 4)", 0);
        run.thing(0, "01120").due("is(0, 3)", 0);
    }

    private static void paired() {
        Sentences.term("4 PAIRED, a THING: each BLOCK has two POINTS, and it is not FREE.");
        dueKinds(Run.PAIRED, "0101", "010122", "001212", "012012", "012021", "0123401234", "0011223434");
        dueKinds(Run.THING, "01012", "010101", "0101222", "0101233343", "0101234567");
        Run run = new Run(101).thing(0, "0101").due("is(0, 4)", 1).due("is(0, 0)", 1).due("is(0, 1)", 0).due("is(0, 3)", 0);
        run.thing(0, "0110").due("is(0, 4)", 0);
    }

    private static void toldAs() {
        Sentences.term("It is told as the first that fits of ROWS, NESTED, FREE, PAIRED, THING: by this it is asked.");
        // Pairs in ROWS are told as ROWS, not as NESTED ones.
        Run run = new Run(101);
        for (String blocks : new String[] {"00", "0011", "001122", "0011223344"}) {
            int n = blocks.length();
            run.thing(0, blocks).due("kind(0)", Run.ROWS).due("is(0, 2)", 1).due("is(0, 3)", 0).due("as(0, 3)", Run.KIND);
            run.due("ask(0, 0)", 2 * (n + n / 2)).dueTrace("12 11 10");
        }
        run.thing(0, "0110").due("kind(0)", Run.NESTED).due("is(0, 2)", 0).due("ask(0, 0)", 4 + 2 + 102).dueTrace("13 11 10 21 20");
        run.thing(0, "0100").due("kind(0)", Run.FREE).due("ask(0, 0)", 4 + 2).dueTrace("11 10");
        run.thing(0, "0101").due("kind(0)", Run.PAIRED).due("ask(0, 0)", 4).dueTrace("14 10");
        run.thing(0, "01010").due("kind(0)", Run.THING).due("ask(0, 0)", 5).dueTrace("10");
        run.thing(0, "0").due("kind(0)", Run.ROWS).due("ask(0, 0)", 2 * (1 + 1)).dueTrace("12 11 10");
    }

    private static void order() {
        Sentences.term("ORDER of FREE ones of n: by the numbers of the BLOCKS of POINTS 0, 1, .., the lesser first.");
        Run run = new Run(101);
        for (int i = 0; i < FOURS.length; i++) {
            run.does("nth(0, 4, " + i + ")").dueBlocks(0, FOURS[i]).due("told(0, 0)", i);
            run.thing(1, FOURS[i]).due("told(1, 0)", i);
        }
        Run ten = new Run(101);
        ten.does("nth(0, 10, 0)").dueBlocks(0, ONE).due("told(0, 0)", 0);
        ten.does("nth(0, 10, 1)").dueBlocks(0, "0000000001").due("told(0, 0)", 1);
        ten.does("nth(0, 10, 2)").dueBlocks(0, "0000000010");
        ten.does("nth(0, 10, 16795)").dueBlocks(0, ALONE).due("told(0, 0)", 16795);
        ten.does("nth(0, 10, 16794)").dueBlocks(0, "0123456788");
        // With POINT 1 in BLOCK 0 there are as many as of nine POINTS.
        ten.does("nth(0, 10, 4861)").dueBlocks(0, "0012345678").does("nth(0, 10, 4862)").dueBlocks(0, "0100000000");
    }

    private static void howMany() {
        Sentences.term("There are 1, 2, 5, 14, 42, ..");
        Run run = new Run(101);
        for (int n = 1; n <= 10; n++) {
            run.due("nth(0, " + n + ", " + (MANY[n] - 1) + ")", Run.ROWS).dueBlocks(0, ALONE.substring(0, n));
            run.due("nth(0, " + n + ", " + MANY[n] + ")", Run.NONE).due("told(0, 0)", MANY[n] - 1);
        }
    }

    private static void finer() {
        Sentences.term("FINER: each BLOCK of the one lies within a BLOCK of the other.");
        Run run = new Run(101).thing(0, ALONE).thing(1, ONE).thing(2, "0123454321").thing(3, "0101234567");
        for (int place = 0; place < 4; place++) {
            run.due("finer(" + place + ", " + place + ")", 1);
            run.due("finer(0, " + place + ")", 1).due("finer(" + place + ", 0)", place == 0 ? 1 : 0);
            run.due("finer(" + place + ", 1)", 1).due("finer(1, " + place + ")", place == 1 ? 1 : 0);
        }
        run.due("finer(2, 3)", 0).due("finer(3, 2)", 0);
        // The last POINT alone makes the whole of a difference.
        run.thing(4, "0101234566").due("finer(3, 4)", 1).due("finer(4, 3)", 0);
        run.thing(5, "0000").thing(6, "0001").due("finer(6, 5)", 1).due("finer(5, 6)", 0);
        run.thing(5, "0").due("finer(5, 5)", 1).thing(6, "9").due("finer(5, 6)", 1);
    }

    private static void meet() {
        Sentences.term("MEET of two FREE ones: POINTS are together, if they are in both.");
        dueBoth(0, "0", "0", "0");
        dueBoth(0, ONE, ONE, ONE);
        dueBoth(0, ONE, ALONE, ALONE);
        dueBoth(0, ALONE, ONE, ALONE);
        dueBoth(0, ONE, "0123454321", "0123454321");
        dueBoth(0, "0123454321", "0123454321", "0123454321");
        dueBoth(0, "0001", "0111", "0112");
        dueBoth(0, "0110", "0011", "0123");
        dueBoth(0, "0000011111", "0001112222", "0001123333");
        dueBoth(0, "0102", "0121", "0123");
        dueBoth(0, "0111111110", "0000000000", "0111111110");
        dueBoth(0, "0100000000", "0000000010", "0100000020");
    }

    private static void join() {
        Sentences.term("JOIN: the finest FREE one of which both are FINER.");
        dueBoth(1, "0", "0", "0");
        dueBoth(1, ONE, ALONE, ONE);
        dueBoth(1, ALONE, ONE, ONE);
        dueBoth(1, ALONE, ALONE, ALONE);
        dueBoth(1, ALONE, "0123454321", "0123454321");
        dueBoth(1, "0123454321", "0123454321", "0123454321");
        // Those that cross come together, also round the end.
        dueBoth(1, "0102", "0121", "0000");
        dueBoth(1, "01023", "01213", "00001");
        dueBoth(1, "01203", "01232", "01000");
        dueBoth(1, "0123456780", "0111111112", "0111111110");
        dueBoth(1, "0123456708", "0123456788", "0123456700");
        dueBoth(1, "0123456708", "0123456787", "0123456000");
        // By chains: 0 with 1, 1 with 2, 2 with 3, .. ; what lies inside stays apart.
        dueBoth(1, "0011223344", "0112233445", ONE);
        dueBoth(1, "001123", "012213", "001102");
    }

    private static void dueBoth(int how, String a, String b, String want) {
        Run run = new Run(101).thing(0, a).thing(1, b);
        run.does("both(2, 0, 1, " + how + ")", "both(3, 1, 0, " + how + ")");
        Sentences.dueText((how == 0 ? "MEET of " : "JOIN of ") + a + " and " + b, run.blocksOf(2), want);
        Sentences.dueText((how == 0 ? "MEET of " : "JOIN of ") + b + " and " + a, run.blocksOf(3), want);
    }

    private static void complement() {
        Sentences.term("COMPLEMENT of a FREE one: POINTS 0' .. (n - 1)', k' between k and k + 1 (the last one behind all):"
            + " the coarsest parting of these that crosses none of the other's, both together being FREE on the ring 0, 0', 1, 1', ..;"
            + " as a parting of 0 .. n - 1.");
        dueTurned(0, "0", "0");
        dueTurned(0, "00", "01");
        dueTurned(0, "01", "00");
        dueTurned(0, "0000", "0123");
        dueTurned(0, "0123", "0000");
        dueTurned(0, ONE, ALONE);
        dueTurned(0, ALONE, ONE);
        // The last one, behind all, is next to POINT 0 on the ring.
        dueTurned(0, "0110", "0102");
        dueTurned(0, "0012", "0111");
        dueTurned(0, "0120", "0001");
        dueTurned(0, "0112", "0100");
        dueTurned(0, "0102", "0011");
        dueTurned(0, "0121", "0110");
        dueTurned(0, "0123456780", "0000000001");
        dueTurned(0, "0123456788", "0000000010");
        dueTurned(0, "0012345678", "0111111111");
        dueTurned(0, "0123443210", "0123432105");
    }

    private static void complementTwice() {
        Sentences.term("(The COMPLEMENT of that is the first one TURNED.)");
        for (int i = 0; i < FOURS.length; i++) {
            twice(FOURS[i]);
        }
        for (String blocks : new String[] {"0", "00", "01", "010", ONE, ALONE, "0123443210", "0123456780", "0012334420", "0100234420"}) {
            twice(blocks);
        }
        // As often as there are POINTS, twice: all is as it was.
        Run run = new Run(101).thing(0, "0012334420");
        for (int i = 0; i < 20; i++) {
            run.does("turn(0, 0, 0)");
        }
        run.dueBlocks(0, "0012334420");
    }

    private static void twice(String blocks) {
        Run run = new Run(101).thing(0, blocks).does("turn(1, 0, 0)", "turn(1, 1, 0)", "turn(2, 0, 1)");
        run.dueBlocks(1, turnedBy(blocks)).dueBlocks(2, turnedBy(blocks));
    }

    private static String turnedBy(String blocks) {
        String led = blocks.substring(1) + blocks.charAt(0);
        StringBuilder found = new StringBuilder();
        StringBuilder text = new StringBuilder();
        for (char c : led.toCharArray()) {
            if (found.indexOf(String.valueOf(c)) < 0) {
                found.append(c);
            }
            text.append(found.indexOf(String.valueOf(c)));
        }
        return text.toString();
    }

    private static void turned() {
        Sentences.term("TURNED: each POINT k is k - 1 then, 0 is n - 1.");
        dueTurned(1, "0", "0");
        dueTurned(1, "00", "00");
        dueTurned(1, "01", "01");
        dueTurned(1, "001", "010");
        dueTurned(1, "010", "011");
        dueTurned(1, "011", "001");
        dueTurned(1, "0011", "0110");
        dueTurned(1, "0110", "0011");
        dueTurned(1, "0101", "0101");
        dueTurned(1, "01012", "01021");
        dueTurned(1, "0111111111", "0000000001");
        dueTurned(1, "0000000001", "0000000010");
        dueTurned(1, "0000000010", "0000000100");
        dueTurned(1, "0123456780", "0123456788");
        Run run = new Run(101).thing(0, "0012345678");
        for (int k = 0; k < 10; k++) {
            run.does("turn(0, 0, 1)");
        }
        run.dueBlocks(0, "0012345678");
    }

    private static void dueTurned(int how, String from, String want) {
        Run run = new Run(101).thing(0, from).does("turn(1, 0, " + how + ")", "turn(0, 0, " + how + ")");
        Sentences.dueText((how == 0 ? "COMPLEMENT of " : "TURNED ") + from, run.blocksOf(1), want);
        Sentences.dueText((how == 0 ? "COMPLEMENT, in place, of " : "TURNED, in place, ") + from, run.blocksOf(0), want);
    }

    private static void dueTold(int what, String blocks, int want) {
        Run run = new Run(101).thing(0, blocks);
        Sentences.due("told(" + what + ") of " + blocks, run.call("told(0, " + what + ")"), want);
    }

    private static void weight() {
        Sentences.term("WEIGHT of a FREE one: the product over its BLOCKS, of s POINTS each, of (-1) to the power (s - 1)"
            + " times number s - 1 of 1, 1, 2, 5, 14, 42, ..");
        int[] ofOne = {1, -1, 2, -5, 14, -42, 132, -429, 1430, -4862};
        for (int n = 1; n <= 10; n++) {
            dueTold(1, ONE.substring(0, n), ofOne[n - 1]);
            dueTold(1, ALONE.substring(0, n), 1);
        }
        dueTold(1, "0011", 1);
        dueTold(1, "0110", 1);
        dueTold(1, "0112", -1);
        dueTold(1, "0000011111", 14 * 14);
        dueTold(1, "0000001111", -42 * -5);
        dueTold(1, "0000000111", 132 * 2);
        dueTold(1, "0000000011", -429 * -1);
        dueTold(1, "0111111110", -429 * -1);
        dueTold(1, "0000000001", 1430);
        dueTold(1, "0011223344", -1);
    }

    private static void weightsAddUp() {
        Sentences.term("(Over all FREE ones of n POINTS, n 2 or more, they add up to 0.)");
        for (int n = 1; n <= 10; n++) {
            long sum = 0;
            Run run = new Run(101);
            for (int i = 0; i < MANY[n]; i++) {
                run = run.callsLeft() < 2 ? new Run(101) : run;
                run.does("nth(0, " + n + ", " + i + ")");
                sum += run.call("told(0, 1)");
            }
            Sentences.due("WEIGHTS of " + n + " POINTS", sum, n == 1 ? 1 : 0);
        }
    }

    private static void under() {
        Sentences.term("UNDER: how many FREE ones are FINER than it (itself, too).");
        for (int n = 1; n <= 10; n++) {
            dueTold(2, ONE.substring(0, n), MANY[n]);
            dueTold(2, ALONE.substring(0, n), 1);
        }
        dueTold(2, "0011", 4);
        dueTold(2, "0110", 4);
        dueTold(2, "0112", 2);
        dueTold(2, "0000011111", 42 * 42);
        dueTold(2, "0111111110", 1430 * 2);
        dueTold(2, "0100000000", 4862);
    }

    private static void over() {
        Sentences.term("OVER: of how many it is.");
        for (int n = 1; n <= 10; n++) {
            dueTold(3, ONE.substring(0, n), 1);
            dueTold(3, ALONE.substring(0, n), MANY[n]);
        }
        // Itself and all in one.
        dueTold(3, "0011", 2);
        dueTold(3, "0110", 2);
        dueTold(3, "0001", 2);
        // As many as of three POINTS, the pair being one.
        dueTold(3, "0012", 5);
        dueTold(3, "0120", 5);
        dueTold(3, "0102", 4);
        dueTold(3, "0123456780", 4862);
        dueTold(3, "0123456788", 4862);
        dueTold(3, "0111111110", 2);
    }

    // ---- 3: HANDLES

    private static void dueHandles(String blocks, int want) {
        Run run = new Run(101).thing(0, blocks);
        Sentences.due("handles of " + blocks, run.call("handles(0)"), want);
    }

    private static void handles() {
        Sentences.term("HANDLES of a THING of pairs (NESTED, PAIRED, ROWS or FREE ones of pairs): the ring's sides are joined by pairs:"
            + " from POINT k one goes to the POINT behind its partner, round; with v rings so gone, and h pairs, HANDLES are (h + 1 - v) by 2.");
        dueHandles("0101", 1);
        dueHandles("010122", 1);
        dueHandles("001212", 1);
        dueHandles("012021", 1);
        // All across: by a step of h + 1 round 2 h POINTS there are 1 or 2 rings.
        dueHandles("012012", 1);
        dueHandles("01230123", 2);
        dueHandles("0123401234", 2);
        dueHandles("01012323", 2);
        dueHandles("0101232344", 2);
        dueHandles("0012123434", 2);
        dueHandles("01", Run.KIND);
        dueHandles("000", Run.KIND);
        dueHandles("0000", Run.KIND);
        Sentences.term("(NESTED ones have 0.)");
        for (String blocks : new String[] {"00", "0011", "0110", "001122", "001221", "011022", "011220", "012210", "0123443210",
            "0011223344", "0112233440"}) {
            dueHandles(blocks, 0);
        }
    }

    // ---- 4: ASKS

    private static void asks() {
        Sentences.term("ASKS, by BODIES, each of which leaves its number in THE TRACE as it begins (the first 16)");
        // The longest one leaves five: the rest of the 16 are not there, nor is any behind them.
        Run run = new Run(101).thing(0, "0110").does("ask(0, 0)");
        int[] left = {13, 11, 10, 21, 20};
        for (int i = 0; i < 20; i++) {
            run.due("trace(" + i + ")", i < 5 ? left[i] : Run.NONE);
        }
        for (int again = 0; again < 20; again++) {
            run.does("ask(0, 0)");
        }
        run.dueTrace("13 11 10 21 20").due("trace(5)", Run.NONE).due("trace(15)", Run.NONE).due("trace(16)", Run.NONE);
    }

    private static void dueAsk(int what, String blocks, int want, String trace) {
        Run run = new Run(101).thing(0, blocks);
        Sentences.due("ask(" + what + ") of " + blocks, run.call("ask(0, " + what + ")"), want);
        run.dueTrace(trace);
    }

    private static void bodies() {
        Sentences.term("0 SIZE: 10 lent to all THINGS: n.");
        dueAsk(0, "01010", 5, "10");
        dueAsk(0, "0101234567", 10, "10");
        Sentences.term("11 of FREE ones: what 10 gives, and how many BLOCKS.");
        dueAsk(0, "010", 3 + 2, "11 10");
        dueAsk(0, "0123456780", 10 + 9, "11 10");
        Sentences.term("12 of ROWS: twice what 11 gives (asked once).");
        dueAsk(0, "0", 2 * (1 + 1), "12 11 10");
        dueAsk(0, "00", 2 * (2 + 1), "12 11 10");
        dueAsk(0, ONE, 2 * (10 + 1), "12 11 10");
        dueAsk(0, ALONE, 2 * (10 + 10), "12 11 10");
        Sentences.term("13 of NESTED ones: what 11 gives, and MARK.");
        dueAsk(0, "0110", 4 + 2 + 2 + 100, "13 11 10 21 20");
        dueAsk(0, "0123443210", 10 + 5 + 5 + 100, "13 11 10 21 20");
        Sentences.term("14 of PAIRED ones: what 10 gives (asked once), times HANDLES.");
        dueAsk(0, "0101", 4, "14 10");
        dueAsk(0, "0123401234", 10 * 2, "14 10");
        dueAsk(0, "0101223344", 10, "14 10");
        Sentences.term("1 MARK: 20 lent to all THINGS: how many BLOCKS.");
        dueAsk(1, "01010", 2, "20");
        dueAsk(1, "0101234567", 8, "20");
        Sentences.term("21 of FREE ones: what 20 gives, and 100.");
        dueAsk(1, "010", 2 + 100, "21 20");
        dueAsk(1, "0123456780", 9 + 100, "21 20");
        Sentences.term("22 of PAIRED ones: what 20 gives, and SIZE.");
        dueAsk(1, "0101", 2 + 4, "22 20 14 10");
        dueAsk(1, "0123401234", 5 + 20, "22 20 14 10");
    }

    private static void whichBody() {
        Sentences.term("(Of an ask the BODY told for the KIND begins, else that of the nearest KIND that it is, too, else the one that is lent;"
            + " SIZE, MARK within others are asked of the same THING anew.)");
        // MARK is told for FREE ones, not for ROWS, NESTED ones: these are FREE, too.
        dueAsk(1, "0", 1 + 100, "21 20");
        dueAsk(1, ALONE, 10 + 100, "21 20");
        dueAsk(1, "00", 1 + 100, "21 20");
        dueAsk(1, "0110", 2 + 100, "21 20");
        // Nothing is told for a THING: the one that is lent.
        dueAsk(0, "01012", 5, "10");
        dueAsk(1, "01012", 3, "20");
        // Anew: the MARK in a NESTED one's SIZE is that of FREE ones, the SIZE in a PAIRED one's MARK that of PAIRED ones.
        dueAsk(0, "001221", 6 + 3 + 3 + 100, "13 11 10 21 20");
        dueAsk(1, "01012323", 4 + 8 * 2, "22 20 14 10");
    }
}
