/** Promises 6 to 19: THINGS, on THE SHELF of an object that has of all KINDS. */
final class ThingBoundaries {
    private static final int[] MANY = {1, 1, 2, 5, 14, 42, 132, 429, 1430, 4862, 16796};

    private ThingBoundaries() {
    }

    static void all() {
        part();
        partRefused();
        nth();
        nthRefused();
        both();
        bothRefused();
        turn();
        turnRefused();
        clear();
        kind();
        is();
        as();
        ask();
        trace();
        block();
        told();
        finer();
        handles();
    }

    private static void part() {
        Sentences.promise(6, "A place has the parting of n POINTS, together those with like ITEMS of a SHEET, from i on.");
        Full.due("part(8, 0, 0, 1)", Run.ROWS, "place 8");
        Full.due("part(9, 2, 0, 10)", Run.ROWS, "place 9");
        Full.due("part(0, 2, 9, 1)", Run.ROWS, "place 0");
        Run run = new Run(101).items(0, 0, 1, 2, 2, 1, 3, 1).items(1, 1, 300, 44, 300).items(2, 2, 1L << 32, 0, 1L << 32, Long.MIN_VALUE, 0);
        run.due("part(0, 0, 0, 6)", Run.FREE).dueBlocks(0, "011020");
        run.due("part(0, 0, 0, 4)", Run.NESTED).dueBlocks(0, "0110");
        run.due("part(0, 0, 5, 1)", Run.ROWS).dueBlocks(0, "0");
        run.due("part(0, 0, 2, 4)", Run.FREE).dueBlocks(0, "0121");
        run.due("part(0, 0, 1, 5)", Run.FREE).dueBlocks(0, "00121");
        // Like are those that read alike with all their bits.
        run.due("part(1, 1, 0, 3)", Run.FREE).dueBlocks(1, "010");
        run.due("part(2, 2, 0, 5)", Run.THING).dueBlocks(2, "01021");
        run.does("sheet(3, 0, 40)", "set(3, 39, 1)", "set(3, 30, 1)").due("part(9, 3, 30, 10)", Run.FREE).dueBlocks(9, "0111111110");
        run.due("part(9, 3, 29, 10)", Run.FREE).dueBlocks(9, "0100000000").due("part(9, 3, 39, 1)", Run.ROWS);
        run.due("count(1)", 4);
    }

    private static void partRefused() {
        Sentences.promise(6, "BAD: place, SHEET, n (1 to 10)");
        Full.outside("part(#, 0, 0, 1)", 0, 9, Run.BAD);
        Full.outside("part(#, 5, 0, 1)", 0, 9, Run.BAD);
        Full.outside("part(0, #, 0, 1)", 0, 7, Run.BAD);
        Full.outside("part(8, #, -1, 1)", 0, 7, Run.BAD);
        Full.outside("part(0, 0, 0, #)", 1, 10, Run.BAD);
        Full.outside("part(0, 2, 0, #)", 1, 10, Run.BAD);
        Full.outside("part(0, 5, 0, #)", 1, 10, Run.BAD);
        Full.outside("part(0, 0, -1, #)", 1, 10, Run.BAD);
        Full.due("part(0, 0, 0, -1)", Run.BAD);
        Sentences.promise(6, "NULL");
        Full.due("part(0, 5, 0, 1)", Run.NULL);
        Full.due("part(8, 7, 0, 10)", Run.NULL);
        Full.due("part(8, 6, -1, 1)", Run.NULL);
        Full.due("part(0, 6, 40, 10)", Run.NULL);
        Sentences.promise(6, "PLACE");
        Full.due("part(0, 0, -1, 1)", Run.PLACE);
        Full.due("part(0, 0, -1, 5)", Run.PLACE);
        Full.due("part(0, 0, 0, 6)", Run.PLACE);
        Full.due("part(0, 0, 1, 5)", Run.PLACE);
        Full.due("part(0, 0, 5, 1)", Run.PLACE);
        Full.due("part(8, 3, 0, 1)", Run.PLACE);
        Full.due("part(8, 2, 1, 10)", Run.PLACE);
        Full.due("part(8, 2, MAX, 1)", Run.PLACE);
        Full.due("part(8, 2, MAX, 10)", Run.PLACE);
        Full.due("part(8, 2, MIN, 1)", Run.PLACE);
        Full.due("part(8, 2, MIN, 10)", Run.PLACE);
        new Run(101).does("sheet(0, 0, 40)").due("part(0, 0, 31, 10)", Run.PLACE).due("part(0, 0, 40, 1)", Run.PLACE).due("part(0, 0, 30, 10)", Run.ROWS);
        // Once larger, it ends where it ends now.
        new Run(101).does("sheet(0, 0, 40)", "sheet(0, 0, 2)").due("part(0, 0, 0, 3)", Run.PLACE).due("part(0, 0, 0, 2)", Run.ROWS);
    }

    private static void nth() {
        Sentences.promise(7, "A place has the i-th FREE one of n, in ORDER.");
        Full.due("nth(0, 1, 0)", Run.ROWS, "place 0");
        Full.due("nth(9, 10, 16795)", Run.ROWS, "place 9");
        Full.due("nth(3, 4, 7)", Run.NESTED);
        Run run = new Run(101);
        for (int n = 1; n <= 10; n++) {
            run.due("nth(0, " + n + ", 0)", Run.ROWS).dueBlocks(0, "0000000000".substring(0, n));
            run.due("nth(0, " + n + ", " + (MANY[n] - 1) + ")", Run.ROWS).dueBlocks(0, "0123456789".substring(0, n));
        }
        run.due("nth(0, 2, 1)", Run.ROWS).dueBlocks(0, "01").due("nth(0, 3, 2)", Run.FREE).dueBlocks(0, "010");
        run.due("nth(0, 4, 6)", Run.FREE).dueBlocks(0, "0102").due("nth(0, 4, 7)", Run.NESTED).dueBlocks(0, "0110");
        run.due("nth(0, 5, 41)", Run.ROWS).due("nth(0, 5, 40)", Run.ROWS).dueBlocks(0, "01233");
    }

    private static void nthRefused() {
        Sentences.promise(7, "BAD: place, n");
        Full.outside("nth(#, 3, 0)", 0, 9, Run.BAD);
        Full.outside("nth(#, 3, -1)", 0, 9, Run.BAD);
        Full.outside("nth(0, #, 0)", 1, 10, Run.BAD);
        Full.outside("nth(0, #, -1)", 1, 10, Run.BAD);
        Full.outside("nth(8, #, MAX)", 1, 10, Run.BAD);
        Full.due("nth(0, -1, 0)", Run.BAD);
        Sentences.promise(7, "NONE: there are not so many, or i is below 0.");
        for (int n = 1; n <= 10; n++) {
            Full.outside("nth(1, " + n + ", #)", 0, MANY[n] - 1, Run.NONE);
        }
        Full.due("nth(8, 3, 5)", Run.NONE);
        Full.due("nth(8, 3, -1)", Run.NONE);
        Full.due("nth(8, 10, 16796)", Run.NONE);
        // Between the FREE ones of n and all partings of n there are none either.
        Full.due("nth(8, 4, 14)", Run.NONE);
    }

    private static void both() {
        Sentences.promise(8, "A place has the MEET (how = 0), JOIN (1) of two FREE ones.");
        Full.due("both(8, 1, 3, 0)", Run.ROWS, "place 8");
        Full.due("both(9, 1, 3, 1)", Run.ROWS, "place 9");
        Full.due("both(0, 6, 6, 0)", Run.ROWS, "place 0");
        Full.due("both(7, 7, 7, 1)", Run.ROWS);
        Full.due("both(1, 1, 2, 0)", Run.ROWS, "place 1");
        Full.due("both(2, 1, 2, 1)", Run.ROWS, "place 2");
        Full.due("both(3, 3, 3, 0)", Run.NESTED);
        // 0102 and 0110, then 0102 and 0012
        Run run = new Run(101).thing(1, "0102").thing(2, "0012").thing(3, "0110");
        run.due("both(8, 1, 3, 0)", Run.ROWS).dueBlocks(8, "0123").due("both(8, 1, 3, 1)", Run.ROWS).dueBlocks(8, "0000");
        run.due("both(8, 1, 2, 0)", Run.ROWS).dueBlocks(8, "0123").due("both(8, 1, 2, 1)", Run.ROWS).dueBlocks(8, "0001");
        run.due("both(8, 2, 3, 0)", Run.ROWS).dueBlocks(8, "0123").due("both(8, 2, 3, 1)", Run.ROWS).dueBlocks(8, "0000");
        // To where one of them stands, and to where both do.
        run.due("both(1, 1, 2, 1)", Run.ROWS).dueBlocks(1, "0001").dueBlocks(2, "0012");
        run.due("both(2, 1, 2, 0)", Run.ROWS).dueBlocks(1, "0001").dueBlocks(2, "0012");
        run.due("both(3, 3, 3, 1)", Run.NESTED).dueBlocks(3, "0110").due("both(3, 3, 3, 0)", Run.NESTED).dueBlocks(3, "0110");
    }

    private static void bothRefused() {
        Sentences.promise(8, "BAD: places, how");
        for (int how = 0; how < 2; how++) {
            Full.outside("both(#, 1, 2, " + how + ")", 0, 9, Run.BAD);
            Full.outside("both(1, #, 2, " + how + ")", 0, 9, Run.BAD);
            Full.outside("both(1, 2, #, " + how + ")", 0, 9, Run.BAD);
        }
        Full.outside("both(#, 8, 4, 0)", 0, 9, Run.BAD);
        Full.outside("both(1, #, 8, 0)", 0, 9, Run.BAD);
        Full.outside("both(1, 4, #, 0)", 0, 9, Run.BAD);
        Full.outside("both(1, 2, 3, #)", 0, 1, Run.BAD);
        Full.outside("both(1, 8, 9, #)", 0, 1, Run.BAD);
        Full.outside("both(1, 0, 4, #)", 0, 1, Run.BAD);
        Sentences.promise(8, "NULL, KIND (a, then b)");
        for (int how = 0; how < 2; how++) {
            Full.due("both(1, 8, 2, " + how + ")", Run.NULL);
            Full.due("both(1, 2, 8, " + how + ")", Run.NULL);
            Full.due("both(1, 8, 9, " + how + ")", Run.NULL);
            Full.due("both(8, 8, 8, " + how + ")", Run.NULL);
            Full.due("both(1, 4, 2, " + how + ")", Run.KIND);
            Full.due("both(1, 2, 4, " + how + ")", Run.KIND);
            Full.due("both(1, 0, 4, " + how + ")", Run.KIND);
            Full.due("both(4, 4, 4, " + how + ")", Run.KIND);
            // What is found of a comes ahead of what is found of b.
            Full.due("both(1, 8, 4, " + how + ")", Run.NULL);
            Full.due("both(1, 4, 8, " + how + ")", Run.KIND);
            Full.due("both(1, 0, 8, " + how + ")", Run.KIND);
        }
        Sentences.promise(8, "then BAD: they have unlike n.");
        for (int how = 0; how < 2; how++) {
            Full.due("both(1, 1, 5, " + how + ")", Run.BAD);
            Full.due("both(1, 5, 1, " + how + ")", Run.BAD);
            Full.due("both(8, 6, 7, " + how + ")", Run.BAD);
            Full.due("both(8, 7, 6, " + how + ")", Run.BAD);
            // Ahead of that stands what is found: 5 POINTS and 4, but the one, or the other, is not FREE.
            Full.due("both(8, 5, 4, " + how + ")", Run.KIND);
            Full.due("both(8, 0, 1, " + how + ")", Run.KIND);
        }
    }

    private static void turn() {
        Sentences.promise(9, "A place has the COMPLEMENT (how = 0) of a FREE one, or any THING TURNED (1).");
        Full.due("turn(8, 3, 0)", Run.FREE, "place 8");
        Full.due("turn(9, 3, 1)", Run.ROWS, "place 9");
        Full.due("turn(6, 6, 0)", Run.ROWS);
        Full.due("turn(6, 6, 1)", Run.ROWS);
        Full.due("turn(7, 7, 0)", Run.ROWS, "place 7");
        Full.due("turn(7, 7, 1)", Run.ROWS);
        Full.due("turn(8, 0, 1)", Run.THING, "place 8");
        Full.due("turn(0, 4, 1)", Run.PAIRED, "place 0");
        Run run = new Run(101).thing(0, "01012").thing(1, "0102").thing(3, "0110").thing(4, "0101").thing(6, "0");
        run.does("turn(8, 0, 1)").dueBlocks(8, "01021").does("turn(8, 4, 1)").dueBlocks(8, "0101");
        run.does("turn(8, 1, 0)").dueBlocks(8, "0011").does("turn(8, 1, 1)").dueBlocks(8, "0121");
        run.does("turn(8, 3, 0)").dueBlocks(8, "0102").does("turn(8, 3, 1)").dueBlocks(8, "0011");
        run.does("turn(8, 6, 0)").dueBlocks(8, "0").does("turn(8, 6, 1)").dueBlocks(8, "0");
        run.does("turn(3, 3, 0)").dueBlocks(3, "0102").does("turn(1, 1, 1)").dueBlocks(1, "0121");
    }

    private static void turnRefused() {
        Sentences.promise(9, "BAD: places, how");
        for (int how = 0; how < 2; how++) {
            Full.outside("turn(#, 3, " + how + ")", 0, 9, Run.BAD);
            Full.outside("turn(3, #, " + how + ")", 0, 9, Run.BAD);
            Full.outside("turn(#, 8, " + how + ")", 0, 9, Run.BAD);
            Full.outside("turn(#, 4, " + how + ")", 0, 9, Run.BAD);
        }
        Full.outside("turn(1, 3, #)", 0, 1, Run.BAD);
        Full.outside("turn(1, 8, #)", 0, 1, Run.BAD);
        Full.outside("turn(1, 4, #)", 0, 1, Run.BAD);
        Sentences.promise(9, "NULL");
        for (int how = 0; how < 2; how++) {
            Full.due("turn(1, 8, " + how + ")", Run.NULL);
            Full.due("turn(9, 9, " + how + ")", Run.NULL);
        }
        Sentences.promise(9, "KIND (of 0)");
        Full.due("turn(1, 0, 0)", Run.KIND);
        Full.due("turn(8, 4, 0)", Run.KIND);
        Full.due("turn(4, 4, 0)", Run.KIND);
        Full.due("turn(4, 4, 1)", Run.PAIRED);
        for (int place : new int[] {1, 2, 3, 5}) {
            Full.due("turn(" + place + ", " + place + ", 0)", new int[] {0, Run.ROWS, Run.ROWS, Run.FREE, 0, Run.FREE}[place], "place " + place);
        }
    }

    private static void clear() {
        Sentences.promise(10, "A place is empty from now on: 1; 0: it was.");
        for (int place = 0; place < 8; place++) {
            Full.due("clear(" + place + ")", 1, "place " + place);
        }
        Full.due("clear(8)", 0);
        Full.due("clear(9)", 0);
        Run run = new Run(101).does("nth(0, 3, 1)", "nth(9, 3, 1)").due("clear(0)", 1).due("kind(0)", Run.NULL).due("is(0, 0)", 0);
        run.due("clear(0)", 0).due("count(1)", 1).due("kind(9)", Run.ROWS).due("clear(9)", 1).due("count(1)", 0);
        run.due("nth(0, 3, 2)", Run.FREE).due("clear(0)", 1);
        Sentences.promise(10, "BAD.");
        Full.outside("clear(#)", 0, 9, Run.BAD);
    }

    private static void kind() {
        Sentences.promise(11, "The KIND of a THING, as it is told.");
        int[] kinds = {Run.THING, Run.FREE, Run.ROWS, Run.NESTED, Run.PAIRED, Run.FREE, Run.ROWS, Run.ROWS};
        for (int place = 0; place < 8; place++) {
            Full.due("kind(" + place + ")", kinds[place]);
        }
        Sentences.promise(11, "BAD");
        Full.outside("kind(#)", 0, 9, Run.BAD);
        Sentences.promise(11, "NULL");
        Full.due("kind(8)", Run.NULL);
        Full.due("kind(9)", Run.NULL);
        new Run(101).does("nth(0, 3, 0)", "clear(0)").due("kind(0)", Run.NULL);
    }

    private static void is() {
        Sentences.promise(12, "Whether a THING, as it is told, is of a KIND (0 .. 4; ROWS, NESTED ones are FREE): 1, 0");
        String[] want = {"10000", "11000", "11100", "11010", "10001", "11000", "11100", "11100"};
        for (int place = 0; place < 8; place++) {
            for (int kind = 0; kind < 5; kind++) {
                Full.due("is(" + place + ", " + kind + ")", want[place].charAt(kind) - '0');
            }
        }
        Sentences.promise(12, "of nothing 0");
        for (int kind = 0; kind < 5; kind++) {
            Full.due("is(8, " + kind + ")", 0);
            Full.due("is(9, " + kind + ")", 0);
        }
        Sentences.promise(12, "BAD.");
        Full.outside("is(#, 0)", 0, 9, Run.BAD);
        Full.outside("is(#, 4)", 0, 9, Run.BAD);
        Full.outside("is(0, #)", 0, 4, Run.BAD);
        Full.outside("is(3, #)", 0, 4, Run.BAD);
        Full.outside("is(8, #)", 0, 4, Run.BAD);
    }

    private static void as() {
        Sentences.promise(13, "A THING is taken as one of a KIND: how many BLOCKS.");
        String[] fits = {"10000", "11000", "11100", "11010", "10001", "11000", "11100", "11100"};
        int[] blocks = {3, 3, 3, 2, 2, 3, 1, 1};
        for (int place = 0; place < 8; place++) {
            for (int kind = 0; kind < 5; kind++) {
                if (fits[place].charAt(kind) == '1') {
                    Full.due("as(" + place + ", " + kind + ")", blocks[place]);
                }
            }
        }
        new Run(101).does("nth(0, 10, 16795)").due("as(0, 0)", 10).due("as(0, 1)", 10).due("as(0, 2)", 10);
        Sentences.promise(13, "BAD");
        Full.outside("as(#, 0)", 0, 9, Run.BAD);
        Full.outside("as(3, #)", 0, 4, Run.BAD);
        Full.outside("as(8, #)", 0, 4, Run.BAD);
        Sentences.promise(13, "NULL");
        for (int kind = 0; kind < 5; kind++) {
            Full.due("as(8, " + kind + ")", Run.NULL);
            Full.due("as(9, " + kind + ")", Run.NULL);
        }
        Sentences.promise(13, "KIND: it is not that, too.");
        for (int place = 0; place < 8; place++) {
            for (int kind = 0; kind < 5; kind++) {
                if (fits[place].charAt(kind) == '0') {
                    Full.due("as(" + place + ", " + kind + ")", Run.KIND);
                }
            }
        }
    }

    private static void ask() {
        Sentences.promise(14, "An ASK (0, 1) of a THING.");
        int[] size = {5, 4 + 3, 2 * (4 + 3), 4 + 2 + 2 + 100, 4, 5 + 3, 2 * (1 + 1), 2 * (10 + 1)};
        int[] mark = {3, 103, 103, 102, 2 + 4, 103, 101, 101};
        for (int place = 0; place < 8; place++) {
            Full.due("ask(" + place + ", 0)", size[place]);
            Full.due("ask(" + place + ", 1)", mark[place]);
        }
        Sentences.promise(14, "BAD");
        Full.outside("ask(#, 0)", 0, 9, Run.BAD);
        Full.outside("ask(#, 1)", 0, 9, Run.BAD);
        Full.outside("ask(3, #)", 0, 1, Run.BAD);
        Full.outside("ask(8, #)", 0, 1, Run.BAD);
        Sentences.promise(14, "NULL");
        for (int what = 0; what < 2; what++) {
            Full.due("ask(8, " + what + ")", Run.NULL);
            Full.due("ask(9, " + what + ")", Run.NULL);
        }
        Sentences.promise(14, "THE TRACE is empty ahead of it, if it is not BAD.");
        Run run = new Run(101).thing(0, "0110").thing(1, "01010").does("ask(0, 0)").dueTrace("13 11 10 21 20");
        run.does("ask(1, 0)").dueTrace("10").does("ask(0, 0)", "ask(1, 1)").dueTrace("20");
        run.does("ask(0, 0)").due("ask(2, 0)", Run.NULL).dueTrace("");
        run.does("ask(0, 1)").due("ask(2, 1)", Run.NULL).dueTrace("").due("ask(2, 2)", Run.BAD).dueTrace("");
        run.does("ask(0, 1)").due("ask(10, 1)", Run.BAD).due("ask(-1, 0)", Run.BAD).due("ask(0, 2)", Run.BAD).due("ask(1, -1)", Run.BAD);
        run.dueTrace("21 20");
    }

    private static void trace() {
        Sentences.promise(15, "Number i of THE TRACE");
        int[] left = {13, 11, 10, 21, 20};
        for (int i = 0; i < 5; i++) {
            Full.due("trace(" + i + ")", left[i]);
        }
        Sentences.promise(15, "NONE.");
        Full.outside("trace(#)", 0, 4, Run.NONE);
        for (int i : new int[] {6, 15, 16, 17, 100}) {
            Full.due("trace(" + i + ")", Run.NONE);
        }
        Run run = new Run(101);
        for (String i : new String[] {"0", "1", "15", "16", "-1", "MIN", "MAX"}) {
            run.due("trace(" + i + ")", Run.NONE);
        }
        run.thing(0, "01010").does("ask(0, 0)").due("trace(0)", 10).due("trace(1)", Run.NONE).due("trace(-1)", Run.NONE);
    }

    private static void block() {
        Sentences.promise(16, "The number of a POINT's BLOCK.");
        String[] blocks = {"01012", "0102", "0012", "0110", "0101", "01022", "0", "0000000000"};
        for (int place = 0; place < 8; place++) {
            int last = blocks[place].length() - 1;
            Full.due("block(" + place + ", 0)", 0);
            Full.due("block(" + place + ", " + last + ")", blocks[place].charAt(last) - '0');
        }
        new Run(101).does("nth(0, 10, 16795)").due("block(0, 9)", 9).due("block(0, 0)", 0).due("block(0, 5)", 5);
        Sentences.promise(16, "BAD: place");
        Full.outside("block(#, 0)", 0, 9, Run.BAD);
        Full.outside("block(#, -1)", 0, 9, Run.BAD);
        Sentences.promise(16, "NULL");
        Full.due("block(8, 0)", Run.NULL);
        Full.due("block(9, 9)", Run.NULL);
        Full.outside("block(8, #)", 0, 9, Run.NULL);
        Sentences.promise(16, "then BAD: POINT.");
        for (int place = 0; place < 8; place++) {
            Full.outside("block(" + place + ", #)", 0, blocks[place].length() - 1, Run.BAD);
        }
        Full.due("block(6, 9)", Run.BAD);
        // Once larger, it has no more POINTS than it has now.
        new Run(101).does("nth(0, 10, 16795)", "nth(0, 3, 0)").due("block(0, 3)", Run.BAD).due("block(0, 9)", Run.BAD).due("block(0, 2)", 0);
    }

    private static void told() {
        Sentences.promise(17, "Of a FREE one: 0 its place in ORDER, 1 WEIGHT, 2 UNDER, 3 OVER.");
        dueTold(1, 6, -1, 2, 4);
        dueTold(2, 4, -1, 2, 5);
        dueTold(3, 7, 1, 4, 2);
        dueTold(6, 0, 1, 1, 1);
        dueTold(7, 0, -4862, 16796, 1);
        new Run(101).does("nth(0, 10, 16795)").due("told(0, 0)", 16795).due("told(0, 1)", 1).due("told(0, 2)", 1).due("told(0, 3)", 16796);
        Sentences.promise(17, "BAD");
        for (int what = 0; what < 4; what++) {
            Full.outside("told(#, " + what + ")", 0, 9, Run.BAD);
        }
        Full.outside("told(3, #)", 0, 3, Run.BAD);
        Full.outside("told(8, #)", 0, 3, Run.BAD);
        Full.outside("told(4, #)", 0, 3, Run.BAD);
        Sentences.promise(17, "NULL");
        for (int what = 0; what < 4; what++) {
            Full.due("told(8, " + what + ")", Run.NULL);
            Full.due("told(9, " + what + ")", Run.NULL);
        }
        Sentences.promise(17, "KIND");
        for (int what = 0; what < 4; what++) {
            Full.due("told(0, " + what + ")", Run.KIND);
            Full.due("told(4, " + what + ")", Run.KIND);
        }
    }

    private static void dueTold(int place, int... want) {
        for (int what = 0; what < 4; what++) {
            Full.due("told(" + place + ", " + what + ")", want[what]);
        }
    }

    private static void finer() {
        Sentences.promise(18, "Whether a THING is FINER than another one: 1, 0.");
        for (int place = 0; place < 8; place++) {
            Full.due("finer(" + place + ", " + place + ")", 1);
        }
        Full.due("finer(1, 4)", 1);
        Full.due("finer(4, 1)", 0);
        Full.due("finer(0, 5)", 0);
        Full.due("finer(5, 0)", 0);
        Full.due("finer(2, 3)", 0);
        Run run = new Run(101).thing(0, "0101").thing(1, "0000").thing(2, "0123").due("finer(0, 1)", 1).due("finer(1, 0)", 0);
        run.due("finer(2, 0)", 1).due("finer(0, 2)", 0).due("finer(2, 1)", 1).due("finer(1, 2)", 0);
        run.does("nth(3, 1, 0)", "nth(4, 1, 0)").due("finer(3, 4)", 1);
        Sentences.promise(18, "BAD: places");
        Full.outside("finer(#, 1)", 0, 9, Run.BAD);
        Full.outside("finer(1, #)", 0, 9, Run.BAD);
        Full.outside("finer(#, 8)", 0, 9, Run.BAD);
        Full.outside("finer(8, #)", 0, 9, Run.BAD);
        Sentences.promise(18, "NULL (a, then b)");
        Full.due("finer(8, 1)", Run.NULL);
        Full.due("finer(1, 8)", Run.NULL);
        Full.due("finer(8, 9)", Run.NULL);
        Full.due("finer(9, 9)", Run.NULL);
        Sentences.promise(18, "then BAD: they have unlike n.");
        Full.due("finer(1, 5)", Run.BAD);
        Full.due("finer(5, 1)", Run.BAD);
        Full.due("finer(0, 4)", Run.BAD);
        Full.due("finer(6, 7)", Run.BAD);
        Full.due("finer(7, 6)", Run.BAD);
    }

    private static void handles() {
        Sentences.promise(19, "HANDLES of a THING of pairs.");
        Full.due("handles(3)", 0);
        Full.due("handles(4)", 1);
        Run run = new Run(101).thing(0, "00").due("handles(0)", 0).thing(0, "0011").due("kind(0)", Run.ROWS).due("handles(0)", 0);
        run.thing(0, "0123401234").due("handles(0)", 2).thing(0, "0123443210").due("handles(0)", 0);
        Sentences.promise(19, "BAD");
        Full.outside("handles(#)", 0, 9, Run.BAD);
        Sentences.promise(19, "NULL");
        Full.due("handles(8)", Run.NULL);
        Full.due("handles(9)", Run.NULL);
        Sentences.promise(19, "KIND: a BLOCK has not two POINTS.");
        for (int place : new int[] {0, 1, 2, 5, 6, 7}) {
            Full.due("handles(" + place + ")", Run.KIND);
        }
        // The first BLOCK, the last one, one POINT too few, one too many; as many as pairs would have.
        for (String blocks : new String[] {"01", "0", "0001", "0111", "00112", "01122", "001123", "000111", "0101222", "0101234567", "0000"}) {
            run.thing(0, blocks).due("handles(0)", Run.KIND);
        }
    }
}
