/** The document's head, and its terms up to KINDS: calls, refusals, SHEETS, THE SHELF, BLOCKS. */
final class TermsBoundaries {
    private TermsBoundaries() {
    }

    static void all() {
        allCallsAreAnswered();
        numbersFromZero();
        bad();
        state();
        findingsInTime();
        eachFinding();
        nothingChanges();
        sheetsAtFirst();
        sheetsHaveItems();
        shelf();
        thingsNeverChange();
        things();
        blocksByLeastPoints();
        placesOfTheShelf();
    }

    private static void allCallsAreAnswered() {
        Sentences.open("Head", "An object is used for at most 512 calls after it has been made; what later calls answer is free.");
        Run told = new Run(101);
        for (int i = 0; i < 256; i++) {
            told.does("nth(0, 10, " + 65 * i + ")").due("told(0, 0)", 65 * i);
        }
        last512("sheet(7, 2, 40)", 40, "drop(7)", 40);
        last512("set(0, 39, -1)", -1, "status()", 0, "sheet(0, 2, 40)");
        last512("copy(0, 0, 0, 1, 39)", 39, "status()", 0, "sheet(0, 0, 40)");
        last512("part(9, 0, 30, 10)", 2, "as(9, 0)", 1, "sheet(0, 0, 40)");
        last512("both(2, 0, 1, 1)", 2, "block(2, 9)", 0, "nth(0, 10, 0)", "nth(1, 10, 16795)");
        last512("turn(0, 0, 0)", 2, "block(0, 1)", 0, "nth(0, 2, 0)");
        last512("ask(0, 0)", 4 + 2 + 2 + 100, "trace(4)", 20, "nth(0, 4, 7)");
        last512("series(7, 0, 32, 8, 1)", 8, "number(7, NONE, 8)", 0, "sheet(0, 2, 40)");
        last512("join(0, 0, 0, 3)", 8, "number(0, NONE, 8)", 1, "sheet(0, 2, 8)", "set(0, 0, 1)", "series(0, 0, 0, 8, 1)");
        last512("change(0, 0, 1, 100)", 8, "number(0, 0, 8)", 0, "sheet(0, 2, 8)", "set(0, 0, 1)", "series(0, 0, 0, 8, 0)");
        last512("walks(4, 12)", 21237168, "genus(10, 5)", 59520825);
        last512("kind(9)", Run.NULL, "status()", 1);
        last512("kind(10)", Run.BAD, "status()", 0);
    }

    /** Behind the first calls one and the same is made, and ahead of the end another one. */
    private static void last512(String dear, long want, String last, long wantLast, String... first) {
        Run run = new Run(101).does(first);
        while (run.callsLeft() > 1) {
            run.due(dear, want);
        }
        run.due(last, wantLast);
        Sentences.due("calls left", run.callsLeft(), 0);
    }

    private static void numbersFromZero() {
        Sentences.term("Numbers go from 0 on.");
        Run run = new Run(101);
        run.due("sheet(0, 0, 3)", 3).due("sheet(-1, 0, 3)", Run.BAD);
        run.due("set(0, 0, 5)", 5).due("set(0, 2, 5)", 5).due("set(0, -1, 5)", Run.PLACE).due("set(0, 3, 5)", Run.PLACE);
        run.due("part(0, 0, 0, 3)", Run.FREE).due("part(-1, 0, 0, 3)", Run.BAD);
        run.due("block(0, 0)", 0).due("block(0, 2)", 0).due("block(0, -1)", Run.BAD).due("block(0, 3)", Run.BAD);
        run.due("nth(0, 3, 0)", Run.ROWS).due("nth(0, 3, 4)", Run.ROWS).due("nth(0, 3, -1)", Run.NONE).due("nth(0, 3, 5)", Run.NONE);
        run.due("told(0, 0)", 4);
        run.due("ask(0, 1)", 103).due("trace(0)", 21).due("trace(1)", 20).due("trace(-1)", Run.NONE).due("trace(2)", Run.NONE);
        run.due("series(0, 0, 0, 1, NONE)", 1).due("series(-1, 0, 0, 1, NONE)", Run.BAD).due("same(0, 0)", 1).due("same(0, -1)", Run.BAD);
    }

    private static void bad() {
        Sentences.term("Refusals are answers, the first of these that fits: BAD (a number is not as told; there is no such thing)");
        // Each of these is wrong twice: by a number, and by what stands behind it in the row of refusals.
        Full.due("sheet(0, 3, -1)", Run.BAD);
        Full.due("sheet(8, 0, -1)", Run.BAD);
        Full.due("copy(5, 0, 8, 0, 1)", Run.BAD);
        Full.due("copy(-1, 0, 5, 0, 1)", Run.BAD);
        Full.due("part(10, 5, 0, 1)", Run.BAD);
        Full.due("part(0, 5, 0, 11)", Run.BAD);
        Full.due("part(0, 2, 8, 11)", Run.BAD);
        Full.due("nth(10, 3, 5)", Run.BAD);
        Full.due("nth(0, 11, -1)", Run.BAD);
        Full.due("both(0, 8, 1, 2)", Run.BAD);
        Full.due("both(10, 4, 1, 0)", Run.BAD);
        Full.due("both(0, 8, 10, 0)", Run.BAD);
        Full.due("turn(0, 8, 2)", Run.BAD);
        Full.due("turn(10, 4, 0)", Run.BAD);
        Full.due("is(8, 5)", Run.BAD);
        Full.due("as(8, 5)", Run.BAD);
        Full.due("as(3, 5)", Run.BAD);
        Full.due("ask(8, 2)", Run.BAD);
        Full.due("told(8, 4)", Run.BAD);
        Full.due("told(4, 4)", Run.BAD);
        Full.due("finer(8, 10)", Run.BAD);
        Full.due("series(8, 5, 0, 1, 0)", Run.BAD);
        Full.due("series(0, 5, 0, 9, 0)", Run.BAD);
        Full.due("series(0, 5, 0, 1, 3)", Run.BAD);
        Full.due("series(0, 2, 8, 9, 0)", Run.BAD);
    }

    private static void state() {
        Sentences.term("STATE (as told)");
        // No promise tells of it: it is a number, and no answer.
        Sentences.due("STATE", FreeParts.STATE, -1000002);
        Sentences.due("BAD", FreeParts.BAD, Run.BAD);
        Sentences.due("NONE", FreeParts.NONE, Run.NONE);
        Full.due("number(0, -1000002, 1)", Run.BAD);
        Full.due("series(0, 2, 0, 1, -1000002)", Run.BAD);
    }

    private static void findingsInTime() {
        Sentences.term("then FINDINGS, of several the first in time: -1000010 less");
        Full.due("set(5, -1, 0)", Run.NULL);
        Full.due("copy(5, -1, 0, 0, 1)", Run.NULL);
        Full.due("copy(0, -1, 5, 0, 1)", Run.NULL);
        Full.due("copy(5, -1, 6, -1, -1)", Run.NULL);
        Full.due("copy(0, -1, 1, 0, 1)", Run.STORE);
        Full.due("copy(0, 0, 1, 9, 1)", Run.STORE);
        Full.due("copy(0, 0, 3, 0, -1)", Run.STORE);
        Full.due("part(1, 5, -1, 3)", Run.NULL);
        Full.due("series(1, 5, -1, 3, 0)", Run.NULL);
        Full.due("both(1, 8, 4, 0)", Run.NULL);
        Full.due("both(1, 4, 8, 0)", Run.KIND);
    }

    private static void eachFinding() {
        Sentences.term("1 NULL (a SHEET that is missing, a place of THE SHELF that is empty)");
        for (int s = 5; s < 8; s++) {
            Full.due("set(" + s + ", 0, 0)", -1000010 - 1);
        }
        for (int place = 8; place < 10; place++) {
            Full.due("kind(" + place + ")", -1000010 - 1);
        }
        Full.due("drop(3)", 0, "sheet 3");
        Sentences.term("2 PLACE (no such place of a SHEET)");
        Full.due("set(0, 5, 0)", -1000010 - 2);
        Full.due("set(3, 0, 0)", -1000010 - 2);
        Sentences.term("3 KIND (a THING that is not that)");
        Full.due("as(1, 2)", -1000010 - 3);
        Full.due("told(0, 0)", -1000010 - 3);
        Sentences.term("4 SIZE (fewer than none)");
        Full.due("sheet(0, 0, -1)", -1000010 - 4);
        Full.due("sheet(0, 0, 0)", 0, "sheet 0");
        Sentences.term("5 STORE (SHEETS of two LANES)");
        Full.due("copy(0, 0, 1, 0, 1)", -1000010 - 5);
        Full.due("copy(0, 0, 4, 0, 1)", 1, "sheet 4");
    }

    private static void nothingChanges() {
        Sentences.term("What is refused, or found, changes nothing but status() (and THE TRACE, by ask()).");
        Full.due("sheet(2, 0, -1)", Run.SIZE);
        Full.due("sheet(2, 0, 41)", Run.BAD);
        Full.due("set(2, 10, 77)", Run.PLACE);
        Full.due("copy(2, 8, 2, 0, 3)", Run.PLACE);
        Full.due("copy(0, 0, 4, 2, 2)", Run.PLACE);
        Full.due("drop(8)", Run.BAD);
        Full.due("part(1, 2, 8, 3)", Run.PLACE);
        Full.due("nth(1, 10, 16796)", Run.NONE);
        Full.due("both(1, 2, 5, 1)", Run.BAD);
        Full.due("both(1, 2, 4, 1)", Run.KIND);
        Full.due("turn(1, 4, 0)", Run.KIND);
        Full.due("clear(10)", Run.BAD);
        Full.due("as(4, 1)", Run.KIND);
        Full.due("ask(8, 0)", Run.NULL);
        Full.due("ask(3, 2)", Run.BAD);
        Full.due("finer(0, 8)", Run.NULL);
        Full.due("handles(1)", Run.KIND);
        Full.due("series(0, 2, 8, 3, NONE)", Run.PLACE);
        Full.due("join(0, 1, 8, 3)", Run.BAD);
        Full.due("join(0, 1, 2, 4)", Run.BAD);
        Full.due("change(0, 1, 2, 5)", Run.BAD);
        Full.due("change(0, 1, 1, -1)", Run.BAD);
        readingChangesNothing();
    }

    /** What only tells of things changes nothing either, though rows are used again inside. */
    private static void readingChangesNothing() {
        Full.due("kind(7)", Run.ROWS);
        Full.due("is(4, 4)", 1);
        Full.due("as(5, 1)", 3);
        Full.due("trace(3)", 21);
        Full.due("block(7, 9)", 0);
        for (int what = 0; what < 4; what++) {
            Full.due("told(7, " + what + ")", new int[] {0, -4862, 16796, 1}[what]);
        }
        Full.due("finer(1, 3)", 0);
        Full.due("handles(4)", 1);
        Full.due("number(1, 0, 1)", 7);
        Full.due("number(1, 1, 2)", 7 - 49 + Run.BIG);
        Full.due("number(1, 2, 2)", 7 - 49 + Run.BIG);
        Full.due("hankel(1, 1)", 7 - 49 + Run.BIG);
        Full.due("same(4, 7)", 1);
        Full.due("genus(10, 0)", 16796);
        Full.due("mean(1, 1000)", 1000000);
        Full.due("walks(4, 2)", 8);
        Full.due("count(1)", 8);
    }

    private static void sheetsAtFirst() {
        Sentences.term("SHEETS 0 .. 7 are missing (at first)");
        Run run = new Run(101);
        for (int s = 0; s < 8; s++) {
            run.due("drop(" + s + ")", Run.NULL).due("set(" + s + ", 0, 0)", Run.NULL).due("part(0, " + s + ", 0, 1)", Run.NULL);
            run.due("copy(" + s + ", 0, " + s + ", 0, 0)", Run.NULL).due("series(0, " + s + ", 0, 1, 0)", Run.NULL);
        }
        run.due("count(0)", 0).due("drop(8)", Run.BAD).due("drop(-1)", Run.BAD);
        for (int s = 0; s < 8; s++) {
            run.due("sheet(" + s + ", 0, 1)", 1).due("count(0)", s + 1);
        }
        run.due("sheet(8, 0, 1)", Run.BAD).due("count(0)", 8);
    }

    private static void sheetsHaveItems() {
        Sentences.term("or have a LANE (0 bytes, 1 ints, 2 longs) and 0 to 40 ITEMS, 0 at first.");
        for (int lane = 0; lane < 3; lane++) {
            Run run = new Run(Run.BIG);
            run.due("sheet(0, " + lane + ", 40)", 40).dueItems(0, "0" + " 0".repeat(39));
            run.due("set(0, 39, 9)", 9).due("set(0, 40, 9)", Run.PLACE).dueItems(0, "0" + " 0".repeat(38) + " 9");
            run.due("sheet(0, " + lane + ", 0)", 0).dueItems(0, "").due("set(0, 0, 9)", Run.PLACE).due("drop(0)", 0);
            run.due("sheet(0, " + lane + ", 1)", 1).dueItems(0, "0").due("set(0, 0, " + (1L << 31) + ")", new long[] {0, Integer.MIN_VALUE, 1L << 31}[lane]);
            run.due("set(0, 0, 128)", lane == 0 ? -128 : 128);
        }
    }

    private static void shelf() {
        Sentences.term("THE SHELF has places 0 .. 9, each empty (at first) or with a THING");
        Run run = new Run(101);
        for (int place = 0; place < 10; place++) {
            run.due("kind(" + place + ")", Run.NULL).due("clear(" + place + ")", 0).due("is(" + place + ", 0)", 0);
        }
        run.due("count(1)", 0);
        for (int place = 0; place < 10; place++) {
            run.due("nth(" + place + ", " + (place + 1) + ", 0)", Run.ROWS).due("count(1)", place + 1);
        }
        run.due("nth(10, 1, 0)", Run.BAD).due("nth(-1, 1, 0)", Run.BAD).due("kind(10)", Run.BAD).due("kind(-1)", Run.BAD);
        for (int place = 0; place < 10; place++) {
            run.dueBlocks(place, "0".repeat(place + 1));
        }
        for (int place = 0; place < 10; place++) {
            run.due("clear(" + place + ")", 1).due("count(1)", 9 - place);
        }
    }

    private static void thingsNeverChange() {
        Sentences.term("THINGS never change.");
        Run run = new Run(101).items(0, 0, 1, 2, 2, 1);
        run.due("part(0, 0, 0, 4)", Run.NESTED);
        run.does("set(0, 0, 2)").dueBlocks(0, "0110");
        run.does("copy(0, 1, 0, 0, 3)").dueBlocks(0, "0110");
        run.does("sheet(0, 1, 1)").dueBlocks(0, "0110");
        run.does("drop(0)").dueBlocks(0, "0110");
        // What is made of it stands elsewhere, and goes its own ways.
        run.does("turn(1, 0, 1)", "turn(2, 0, 0)", "both(3, 0, 1, 0)", "both(4, 0, 1, 1)", "told(0, 3)", "ask(0, 0)", "handles(0)");
        run.dueBlocks(0, "0110").dueBlocks(1, "0011").dueBlocks(2, "0102").dueBlocks(3, "0123").dueBlocks(4, "0000");
        run.does("both(5, 0, 0, 1)", "turn(0, 0, 1)").dueBlocks(5, "0110").dueBlocks(0, "0011");
        run.does("clear(0)").dueBlocks(5, "0110").due("told(5, 0)", 7).due("kind(5)", Run.NESTED);
    }

    private static void things() {
        Sentences.term("KINDS: 0 THING, a parting of POINTS 0 .. n - 1 (n 1 to 10) into BLOCKS");
        Run run = new Run(101).does("sheet(0, 0, 11)");
        run.due("part(0, 0, 0, 0)", Run.BAD).due("nth(0, 0, 0)", Run.BAD).due("part(0, 0, 0, 11)", Run.BAD).due("nth(0, 11, 0)", Run.BAD);
        run.due("kind(0)", Run.NULL);
        run.due("part(0, 0, 0, 1)", Run.ROWS).dueBlocks(0, "0").due("is(0, 0)", 1).due("block(0, 0)", 0).due("block(0, 1)", Run.BAD);
        run.due("part(0, 0, 1, 10)", Run.ROWS).dueBlocks(0, "0000000000").due("is(0, 0)", 1).due("block(0, 9)", 0).due("block(0, 10)", Run.BAD);
        run.thing(0, "0101234567").due("kind(0)", Run.THING).due("is(0, 0)", 1).dueBlocks(0, "0101234567");
        run.thing(0, "01010").due("kind(0)", Run.THING).due("is(0, 0)", 1).dueBlocks(0, "01010");
        run.thing(0, "0123456789").due("kind(0)", Run.ROWS).due("is(0, 0)", 1).due("as(0, 0)", 10);
    }

    private static void blocksByLeastPoints() {
        Sentences.term("BLOCKS have numbers, 0, 1, .. by their least POINTS.");
        Run run = new Run(101);
        run.thing(0, "9876543210").dueBlocks(0, "0123456789");
        run.thing(0, "5").dueBlocks(0, "0");
        run.thing(0, "21221").dueBlocks(0, "01001");
        run.thing(0, "7337").dueBlocks(0, "0110");
        run.thing(0, "9191828282").dueBlocks(0, "0101232323");
        run.does("turn(1, 0, 1)").dueBlocks(1, "0102323231");
        run.thing(0, "0012").does("turn(0, 0, 1)").dueBlocks(0, "0120");
        run.does("turn(0, 0, 1)").dueBlocks(0, "0122");
        run.items(0, 0, -128, 127, 0, -128).does("part(0, 0, 0, 4)").dueBlocks(0, "0120");
    }

    private static void placesOfTheShelf() {
        Sentences.term("(places: of THE SHELF; all tell the KIND of what a place has then)");
        Run run = new Run(101).items(0, 0, 1, 2, 1, 2, 3);
        run.due("part(9, 0, 0, 5)", Run.THING).due("part(9, 0, 0, 4)", Run.PAIRED).due("part(9, 0, 0, 3)", Run.FREE).due("part(9, 0, 0, 2)", Run.ROWS);
        run.due("nth(9, 4, 7)", Run.NESTED).due("nth(8, 4, 10)", Run.FREE).due("nth(7, 4, 0)", Run.ROWS);
        run.due("both(6, 9, 7, 0)", Run.NESTED).due("both(6, 9, 7, 1)", Run.ROWS).due("both(6, 9, 8, 1)", Run.NESTED).due("both(6, 9, 8, 0)", Run.FREE);
        run.due("turn(6, 9, 1)", Run.ROWS).due("turn(6, 6, 1)", Run.NESTED).due("turn(6, 6, 0)", Run.FREE);
        run.does("part(5, 0, 0, 4)").due("turn(6, 5, 1)", Run.PAIRED).does("part(5, 0, 0, 5)").due("turn(6, 5, 1)", Run.THING);
    }
}
