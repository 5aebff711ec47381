/** Promises 2 to 5: SHEETS. */
final class SheetBoundaries {
    private SheetBoundaries() {
    }

    static void all() {
        sheet();
        sheetRefused();
        set();
        setRefused();
        copy();
        copyRefused();
        drop();
        dropRefused();
    }

    private static void sheet() {
        Sentences.promise(2, "A SHEET of a LANE with n ITEMS, in place of what is there: n.");
        for (int lane = 0; lane < 3; lane++) {
            Full.due("sheet(0, " + lane + ", 0)", 0, "sheet 0");
            Full.due("sheet(7, " + lane + ", 1)", 1, "sheet 7");
            Full.due("sheet(4, " + lane + ", 40)", 40, "sheet 4");
        }
        Run run = new Run(Run.BIG).items(0, 2, 1, 2, 3, 4, 5);
        // As large, smaller, and larger again: nothing of what was there is left.
        run.due("sheet(0, 2, 5)", 5).dueItems(0, "0 0 0 0 0").does("set(0, 4, 9)", "set(0, 2, 8)");
        run.due("sheet(0, 2, 2)", 2).dueItems(0, "0 0");
        run.due("sheet(0, 2, 5)", 5).dueItems(0, "0 0 0 0 0");
        // Another LANE.
        run.due("set(0, 0, " + (1L << 40) + ")", 1L << 40).due("sheet(0, 0, 5)", 5).dueItems(0, "0 0 0 0 0").due("set(0, 0, 300)", 44);
        run.due("sheet(0, 1, 5)", 5).due("set(0, 0, 300)", 300).due("set(0, 0, " + (1L << 40) + ")", 0);
        // Behind drop() it is there anew.
        run.does("set(0, 0, 6)", "drop(0)").due("sheet(0, 1, 5)", 5).dueItems(0, "0 0 0 0 0");
        // Others stay as they are.
        run.items(1, 0, 1, 2).items(2, 0, 3, 4).due("sheet(1, 0, 40)", 40).dueItems(2, "3 4").due("count(0)", 3);
    }

    private static void sheetRefused() {
        Sentences.promise(2, "BAD: SHEET, LANE, n above 40");
        for (int n : new int[] {-1, 0, 40}) {
            Full.outside("sheet(#, 0, " + n + ")", 0, 7, Run.BAD);
            Full.outside("sheet(0, #, " + n + ")", 0, 2, Run.BAD);
        }
        Full.due("sheet(0, 0, 40)", 40, "sheet 0");
        Full.due("sheet(0, 0, 41)", Run.BAD);
        Full.due("sheet(0, 2, MAX)", Run.BAD);
        Full.due("sheet(6, 1, 41)", Run.BAD);
        Sentences.promise(2, "SIZE");
        for (int lane = 0; lane < 3; lane++) {
            Full.due("sheet(0, " + lane + ", -1)", Run.SIZE);
            Full.due("sheet(6, " + lane + ", -1)", Run.SIZE);
            Full.due("sheet(7, " + lane + ", MIN)", Run.SIZE);
            Full.due("sheet(2, " + lane + ", BAD)", Run.SIZE);
        }
    }

    private static void set() {
        Sentences.promise(3, "ITEM i becomes v, its lowest bits, as many as the LANE has (read with their sign): what it is then.");
        Run run = new Run(Run.BIG).does("sheet(0, 0, 40)", "sheet(1, 1, 40)", "sheet(2, 2, 40)");
        long[] told = {0, 1, -1, 127, 128, -128, -129, 255, 256, 257, 32767, 32768, 65535, 65536, Integer.MAX_VALUE, 1L << 31,
            -(1L << 31), -(1L << 31) - 1, (1L << 32) - 1, 1L << 32, (1L << 32) + 1, Long.MAX_VALUE, Long.MIN_VALUE, 0x7f00000080L};
        long[] bytes = {0, 1, -1, 127, -128, -128, 127, -1, 0, 1, -1, 0, -1, 0, -1, 0,
            0, -1, -1, 0, 1, -1, 0, -128};
        long[] ints = {0, 1, -1, 127, 128, -128, -129, 255, 256, 257, 32767, 32768, 65535, 65536, Integer.MAX_VALUE, Integer.MIN_VALUE,
            Integer.MIN_VALUE, Integer.MAX_VALUE, -1, 0, 1, -1, 0, 128};
        for (int i = 0; i < told.length; i++) {
            run.due("set(0, " + i + ", " + told[i] + ")", bytes[i]);
            run.due("set(1, " + i + ", " + told[i] + ")", ints[i]);
            run.due("set(2, " + i + ", " + told[i] + ")", told[i]);
        }
        ends();
        // What it answers is what it is: ITEMS that read alike are alike.
        run.due("part(0, 0, 7, 3)", Run.ROWS).dueBlocks(0, "012").due("set(0, 9, 511)", -1).due("part(0, 0, 7, 3)", Run.FREE).dueBlocks(0, "010");
        run.due("set(2, 7, -1)", -1).due("set(2, 9, " + ((1L << 32) - 1) + ")", (1L << 32) - 1).due("part(0, 2, 7, 3)", Run.ROWS);
    }

    /** The first ITEM and the last one, and only these, get what they are told. */
    private static void ends() {
        Run run = new Run(Run.BIG).does("sheet(0, 0, 3)").due("set(0, 0, 300)", 44).dueItems(0, "44 0 0");
        run.due("set(0, 2, -300)", -44).dueItems(0, "44 0 -44").due("set(0, 2, 5)", 5).dueItems(0, "44 0 5");
        run.does("sheet(1, 1, 40)").due("set(1, 39, 7)", 7).due("set(1, 0, 8)", 8).dueItems(1, "8" + " 0".repeat(38) + " 7");
        Full.due("set(0, 4, 9)", 9, "sheet 0");
        Full.due("set(2, 9, MIN)", Long.MIN_VALUE, "sheet 2");
    }

    private static void setRefused() {
        Sentences.promise(3, "BAD: SHEET");
        Full.outside("set(#, 0, 1)", 0, 7, Run.BAD);
        Full.outside("set(#, -1, 1)", 0, 7, Run.BAD);
        Sentences.promise(3, "NULL");
        Full.due("set(5, 0, 1)", Run.NULL);
        Full.due("set(7, 0, 1)", Run.NULL);
        Full.outside("set(6, #, 1)", 0, 39, Run.NULL);
        new Run(101).does("sheet(0, 0, 1)", "drop(0)").due("set(0, 0, 1)", Run.NULL);
        Sentences.promise(3, "PLACE");
        Full.outside("set(0, #, 1)", 0, 4, Run.PLACE);
        Full.outside("set(1, #, 1)", 0, 3, Run.PLACE);
        Full.outside("set(2, #, 1)", 0, 9, Run.PLACE);
        Full.outside("set(3, #, 1)", 0, -1, Run.PLACE);
        Full.due("set(2, 39, 1)", Run.PLACE);
        // Once larger, it has no more than it has now.
        new Run(101).does("sheet(0, 0, 40)", "sheet(0, 0, 5)").due("set(0, 5, 1)", Run.PLACE).due("set(0, 39, 1)", Run.PLACE).due("set(0, 4, 1)", 1);
        new Run(101).does("sheet(0, 0, 40)").due("set(0, 40, 1)", Run.PLACE).due("set(0, -1, 1)", Run.PLACE).due("set(0, 39, 1)", 1);
    }

    private static void copy() {
        Sentences.promise(4, "n ITEMS of a from i on come to b from j on, as they were ahead: n.");
        dueCopied("copy(0, 0, 0, 1, 4)", 4, "1 1 2 3 4", "7 8 9");
        dueCopied("copy(0, 1, 0, 0, 4)", 4, "2 3 4 5 5", "7 8 9");
        dueCopied("copy(0, 0, 0, 0, 5)", 5, "1 2 3 4 5", "7 8 9");
        dueCopied("copy(0, 0, 0, 2, 3)", 3, "1 2 1 2 3", "7 8 9");
        dueCopied("copy(0, 4, 0, 0, 1)", 1, "5 2 3 4 5", "7 8 9");
        dueCopied("copy(0, 0, 1, 0, 3)", 3, "1 2 3 4 5", "1 2 3");
        dueCopied("copy(0, 2, 1, 0, 3)", 3, "1 2 3 4 5", "3 4 5");
        dueCopied("copy(0, 4, 1, 2, 1)", 1, "1 2 3 4 5", "7 8 5");
        dueCopied("copy(1, 0, 0, 2, 3)", 3, "1 2 7 8 9", "7 8 9");
        dueCopied("copy(1, 2, 0, 0, 1)", 1, "9 2 3 4 5", "7 8 9");
        // None, up to the very end, and to and from a SHEET that has none.
        dueCopied("copy(0, 0, 1, 0, 0)", 0, "1 2 3 4 5", "7 8 9");
        dueCopied("copy(0, 5, 1, 3, 0)", 0, "1 2 3 4 5", "7 8 9");
        Full.due("copy(2, 10, 3, 0, 0)", 0);
        Full.due("copy(3, 0, 2, 10, 0)", 0);
        Full.due("copy(3, 0, 3, 0, 0)", 0);
        for (int lane = 0; lane < 3; lane++) {
            Run run = new Run(Run.BIG).does("sheet(0, " + lane + ", 40)", "sheet(1, " + lane + ", 40)", "set(0, 0, -5)", "set(0, 39, 6)");
            run.due("copy(0, 0, 1, 0, 40)", 40).dueItems(1, "-5" + " 0".repeat(38) + " 6");
            run.due("copy(1, 0, 1, 1, 39)", 39).dueItems(1, "-5 -5" + " 0".repeat(38));
        }
        Run run = new Run(101).items(0, 2, Long.MIN_VALUE, Long.MAX_VALUE).does("sheet(1, 2, 2)", "copy(0, 0, 1, 0, 2)", "copy(0, 0, 1, 1, 1)");
        run.due("part(0, 1, 0, 2)", Run.ROWS).due("as(0, 0)", 1).due("copy(0, 1, 1, 1, 1)", 1).does("part(0, 1, 0, 2)").due("as(0, 0)", 2);
    }

    private static void dueCopied(String text, int want, String first, String second) {
        for (int lane = 0; lane < 3; lane++) {
            Run run = new Run(Run.BIG).items(0, lane, 1, 2, 3, 4, 5).items(1, lane, 7, 8, 9);
            run.due(text, want).dueItems(0, first).dueItems(1, second);
        }
    }

    private static void copyRefused() {
        Sentences.promise(4, "BAD: SHEETS");
        Full.outside("copy(#, 0, 0, 0, 1)", 0, 7, Run.BAD);
        Full.outside("copy(0, 0, #, 0, 1)", 0, 7, Run.BAD);
        Full.outside("copy(#, 0, 5, 0, 1)", 0, 7, Run.BAD);
        Full.outside("copy(5, 0, #, 0, 1)", 0, 7, Run.BAD);
        Full.outside("copy(#, -1, #, -1, -1)", 0, 7, Run.BAD);
        Sentences.promise(4, "NULL");
        Full.due("copy(5, 0, 0, 0, 0)", Run.NULL);
        Full.due("copy(0, 0, 5, 0, 0)", Run.NULL);
        Full.due("copy(7, 0, 7, 0, 0)", Run.NULL);
        Full.due("copy(5, -1, 0, -1, -1)", Run.NULL);
        Full.due("copy(0, -1, 5, -1, -1)", Run.NULL);
        Sentences.promise(4, "STORE");
        for (int a = 0; a < 3; a++) {
            for (int b = 0; b < 3; b++) {
                if (a != b) {
                    Full.due("copy(" + a + ", 0, " + b + ", 0, 1)", Run.STORE);
                    // Even if there is nothing to copy, or what there is does not fit.
                    Full.due("copy(" + a + ", 0, " + b + ", 0, 0)", Run.STORE);
                    Full.due("copy(" + a + ", -1, " + b + ", 40, -1)", Run.STORE);
                }
            }
        }
        Full.due("copy(3, 0, 0, 0, 0)", Run.STORE);
        Full.due("copy(0, 0, 3, 0, 0)", Run.STORE);
        copyBeyond();
    }

    private static void copyBeyond() {
        Sentences.promise(4, "PLACE (i, j, n below 0, or beyond an end)");
        // SHEET 0 has five ITEMS, SHEET 4 three.
        Full.due("copy(0, -1, 4, 0, 1)", Run.PLACE);
        Full.due("copy(0, 0, 4, -1, 1)", Run.PLACE);
        Full.due("copy(0, 0, 4, 0, -1)", Run.PLACE);
        Full.due("copy(0, -1, 4, 0, 0)", Run.PLACE);
        Full.due("copy(0, 0, 4, -1, 0)", Run.PLACE);
        Full.due("copy(0, 1, 4, 1, -1)", Run.PLACE);
        Full.due("copy(0, 5, 4, 0, 1)", Run.PLACE);
        Full.due("copy(0, 4, 4, 0, 2)", Run.PLACE);
        Full.due("copy(0, 6, 4, 0, 0)", Run.PLACE);
        Full.due("copy(0, 6, 4, 0, -1)", Run.PLACE);
        Full.due("copy(0, 0, 4, 3, 1)", Run.PLACE);
        Full.due("copy(0, 0, 4, 2, 2)", Run.PLACE);
        Full.due("copy(0, 0, 4, 0, 4)", Run.PLACE);
        Full.due("copy(0, 0, 4, 4, 0)", Run.PLACE);
        Full.due("copy(4, 0, 0, 0, 4)", Run.PLACE);
        Full.due("copy(0, 0, 0, 1, 5)", Run.PLACE);
        Full.due("copy(0, 1, 0, 0, 5)", Run.PLACE);
        Full.due("copy(3, 0, 3, 0, 1)", Run.PLACE);
        Full.due("copy(3, 1, 3, 0, 0)", Run.PLACE);
        // Sums that go round: i + n, j + n are below 0 as ints.
        Full.due("copy(0, MAX, 4, 0, 1)", Run.PLACE);
        Full.due("copy(0, 1, 4, 0, MAX)", Run.PLACE);
        Full.due("copy(0, 0, 4, MAX, 1)", Run.PLACE);
        Full.due("copy(0, MAX, 4, MAX, MAX)", Run.PLACE);
        Full.due("copy(0, MAX, 0, MAX, 2)", Run.PLACE);
        Full.due("copy(0, MIN, 4, MIN, MIN)", Run.PLACE);
        Full.due("copy(0, MIN, 4, 0, 0)", Run.PLACE);
        Full.due("copy(0, 0, 4, MIN, 0)", Run.PLACE);
        Full.due("copy(0, 0, 4, 0, MIN)", Run.PLACE);
        Full.due("copy(0, 3, 4, 3, MIN)", Run.PLACE);
        new Run(101).does("sheet(0, 0, 40)").due("copy(0, 1, 0, 0, 40)", Run.PLACE).due("copy(0, 0, 0, 1, 40)", Run.PLACE)
            .due("copy(0, 0, 0, 0, 41)", Run.PLACE).due("copy(0, 0, 0, 0, 40)", 40);
        // Once larger, it ends where it ends now.
        new Run(101).does("sheet(0, 0, 40)", "sheet(0, 0, 5)").due("copy(0, 0, 0, 5, 1)", Run.PLACE).due("copy(0, 5, 0, 0, 1)", Run.PLACE);
    }

    private static void drop() {
        Sentences.promise(5, "A SHEET is missing from now on: how many ITEMS it had.");
        Full.due("drop(0)", 5, "sheet 0");
        Full.due("drop(3)", 0, "sheet 3");
        Full.due("drop(4)", 3, "sheet 4");
        Run run = new Run(Run.BIG).does("sheet(0, 0, 40)", "sheet(7, 2, 1)").due("drop(0)", 40).due("count(0)", 1);
        run.due("drop(0)", Run.NULL).due("set(0, 0, 1)", Run.NULL).due("copy(0, 0, 0, 0, 0)", Run.NULL).due("part(0, 0, 0, 1)", Run.NULL);
        run.due("series(0, 0, 0, 1, NONE)", Run.NULL).due("drop(7)", 1).due("count(0)", 0);
        run.due("sheet(0, 0, 3)", 3).due("count(0)", 1).dueItems(0, "0 0 0").due("drop(0)", 3);
    }

    private static void dropRefused() {
        Sentences.promise(5, "BAD");
        Full.outside("drop(#)", 0, 7, Run.BAD);
        Sentences.promise(5, "NULL");
        for (int s = 5; s < 8; s++) {
            Full.due("drop(" + s + ")", Run.NULL);
        }
    }
}
