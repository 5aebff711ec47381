/** A new object and the calls that it gets, at most the 512 that the document speaks of. */
final class Run {
    static final int NONE = -1000000, BAD = -1000001;
    static final int NULL = -1000011, PLACE = -1000012, KIND = -1000013, SIZE = -1000014, STORE = -1000015;
    static final int THING = 0, FREE = 1, ROWS = 2, NESTED = 3, PAIRED = 4;
    static final int MOST_CALLS = 512;
    static final int BIG = 1999999973;

    private final FreeParts x;
    private final int p;
    private int calls = 0;

    Run(int p) {
        this.p = p;
        x = new FreeParts(p);
    }

    long call(String text) {
        calls++;
        if (calls > MOST_CALLS) {
            throw new IllegalStateException("a test goes beyond call " + MOST_CALLS + ": " + text);
        }
        return Call.of(text).on(x);
    }

    /** Calls whose answers are looked at elsewhere. */
    Run does(String... texts) {
        for (String text : texts) {
            call(text);
        }
        return this;
    }

    Run due(String text, long want) {
        Sentences.due(text, call(text), want);
        return this;
    }

    int callsLeft() {
        return MOST_CALLS - calls;
    }

    // ---- what several calls make

    /** A SHEET of a LANE with these ITEMS. */
    Run items(int sheet, int lane, long... items) {
        does("sheet(" + sheet + ", " + lane + ", " + items.length + ")");
        for (int i = 0; i < items.length; i++) {
            does("set(" + sheet + ", " + i + ", " + items[i] + ")");
        }
        return this;
    }

    /** A place has the parting with these BLOCKS, a sign each; SHEET 7 is used, and is missing afterwards. */
    Run thing(int place, String blocks) {
        int n = blocks.length();
        does("sheet(7, 0, " + n + ")");
        for (int i = 0; i < n; i++) {
            does("set(7, " + i + ", " + (int) blocks.charAt(i) + ")");
        }
        return does("part(" + place + ", 7, 0, " + n + ")", "drop(7)");
    }

    /** A SERIES has these numbers as those of a sort; SHEET 7 is used, and is missing afterwards. */
    Run series(int to, int sort, long... numbers) {
        items(7, 2, numbers);
        return does("series(" + to + ", 7, 0, " + numbers.length + ", " + sort + ")", "drop(7)");
    }

    // ---- what several calls tell

    /** The BLOCKS of the POINTS, a digit each, up to the first POINT that is not there; "" of an empty place. */
    String blocksOf(int place) {
        StringBuilder text = new StringBuilder();
        for (int k = 0; k <= 10; k++) {
            long block = call("block(" + place + ", " + k + ")");
            if (block < 0) {
                break;
            }
            text.append(block);
        }
        return text.toString();
    }

    Run dueBlocks(int place, String want) {
        Sentences.dueText("the BLOCKS in place " + place, blocksOf(place), want);
        return this;
    }

    /** All numbers of a sort, up to the first one that is not there. */
    String numbersOf(int series, int sort) {
        StringBuilder text = new StringBuilder();
        for (int k = 1; k <= 9; k++) {
            long number = call("number(" + series + ", " + sort + ", " + k + ")");
            if (number == BAD) {
                break;
            }
            text.append(k == 1 ? "" : " ").append(number);
        }
        return text.toString();
    }

    Run dueNumbers(int series, int sort, String want) {
        Sentences.dueText("SERIES " + series + ", sort " + sort, numbersOf(series, sort), want);
        return this;
    }

    Run dueMoments(int series, String want) {
        return dueNumbers(series, NONE, want);
    }

    /** ITEMS of a SHEET, those beyond p by 2 as p less: read by SERIES 7, which has the last one then. */
    String itemsOf(int sheet) {
        StringBuilder text = new StringBuilder();
        for (int i = 0; i < 41; i++) {
            if (call("series(7, " + sheet + ", " + i + ", 1, NONE)") != 1) {
                break;
            }
            long item = call("number(7, NONE, 1)");
            text.append(i == 0 ? "" : " ").append(item > p / 2 ? item - p : item);
        }
        return text.toString();
    }

    Run dueItems(int sheet, String want) {
        Sentences.dueText("the ITEMS of SHEET " + sheet, itemsOf(sheet), want);
        return this;
    }

    /** Numbers of THE TRACE, up to the first one that is not there. */
    String traceOf() {
        StringBuilder text = new StringBuilder();
        for (int i = 0; i <= 16; i++) {
            long body = call("trace(" + i + ")");
            if (body == NONE) {
                break;
            }
            text.append(i == 0 ? "" : " ").append(body);
        }
        return text.toString();
    }

    Run dueTrace(String want) {
        Sentences.dueText("THE TRACE", traceOf(), want);
        return this;
    }
}
