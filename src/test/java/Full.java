import java.util.Arrays;
import java.util.HashMap;
import java.util.LinkedHashMap;
import java.util.List;
import java.util.Map;
import java.util.Set;

/**
 * An object that has all sorts of things, and all that can be seen of it: so that one
 * call can be tried on it, and what the call must not change can be seen to be as it was.
 *
 * SHEETS: 0 bytes 1 2 1 2 3, 1 ints 7 7 70000 -9, 2 longs (ten), 3 longs (none), 4 bytes 4 5 6; 5 to 7 are missing.
 * THE SHELF: 0 THING 01012, 1 FREE 0102, 2 ROWS 0012, 3 NESTED 0110, 4 PAIRED 0101, 5 FREE 01022, 6 ROWS 0,
 * 7 ROWS 0000000000; 8 and 9 are empty.
 * SERIES: 0 has N 8, 1 N 4, 2 N 5, 3 N 1; 4 to 7 are as at first. THE TRACE has 13 11 10 21 20.
 */
final class Full {
    private static final Set<String> TELL_STATUS = Set.of("sheet", "set", "copy", "drop", "part", "nth", "both", "turn",
        "kind", "as", "ask", "block", "told", "finer", "handles", "series");

    /** A FINDING that status() tells ahead of the call, and one that it does not leave the same. */
    private static final int[] BEFORE = {1, 4};

    private static final Map<Integer, Map<String, String>> UNTOUCHED = new HashMap<>();

    private Full() {
    }

    static Run make(int latest) {
        Run run = new Run(Run.BIG);
        run.items(0, 0, 1, 2, 1, 2, 3).items(1, 1, 7, 7, 70000, -9);
        run.items(2, 2, 5, 1L << 40, 0, 3, 3, 4, 8, 8, 9, -1).items(3, 2).items(4, 0, 4, 5, 6);
        run.does("part(0, 0, 0, 5)").thing(1, "0102").thing(2, "0012").thing(3, "0110").thing(4, "0101");
        run.thing(5, "01022").does("nth(6, 1, 0)", "nth(7, 10, 0)");
        run.does("series(0, 2, 2, 8, 1)", "series(1, 1, 0, 4, NONE)", "series(2, 0, 0, 5, 0)", "series(3, 4, 1, 1, 2)");
        run.does("ask(3, 0)", latest == 1 ? "kind(9)" : "sheet(5, 0, -1)");
        return run;
    }

    /** All but status(). What is looked at is changed by that only behind it. */
    static Map<String, String> seenOf(Run run) {
        Map<String, String> seen = new LinkedHashMap<>();
        seen.put("trace", run.traceOf());
        for (int s = 0; s < 8; s++) {
            seen.put("series " + s, run.numbersOf(s, Run.NONE));
        }
        for (int place = 0; place < 10; place++) {
            seen.put("place " + place, run.call("kind(" + place + ")") + ": " + run.blocksOf(place));
        }
        for (int s = 0; s < 8; s++) {
            seen.put("sheet " + s, run.call("copy(" + s + ", 0, " + s + ", 0, 0)") + ": " + run.itemsOf(s));
        }
        for (int s = 0; s < 8; s++) {
            // SHEETS without ITEMS are told apart by what can be copied to SHEET 2, which has longs.
            long lane = run.call("set(" + s + ", 0, " + ((1L << 40) + 300) + ")");
            long copied = run.call("copy(" + s + ", 0, 2, 0, 0)");
            seen.merge("sheet " + s, " lane " + lane + (s == 2 ? "" : " " + copied), String::concat);
        }
        return seen;
    }

    /** The answer that is due, and that nothing changes but status(), and what is named. */
    static void due(String text, long want, String... changed) {
        List<String> may = Arrays.asList(changed);
        String name = Call.of(text).name;
        for (int latest : BEFORE) {
            Run run = make(latest);
            run.due(text, want);
            run.due("status()", statusBehind(name, want, latest));
            Map<String, String> untouched = UNTOUCHED.computeIfAbsent(latest, l -> seenOf(make(l)));
            Map<String, String> seen = seenOf(run);
            for (String key : seen.keySet()) {
                if (key.equals("trace") && name.equals("ask") && want != Run.BAD) {
                    if (want == Run.NULL) {
                        Sentences.dueText(text + ", then THE TRACE", seen.get(key), "");
                    }
                } else if (!may.contains(key)) {
                    Sentences.dueText(text + ", then " + key, seen.get(key), untouched.get(key));
                }
            }
        }
    }

    /** Each # of the text becomes a number just below, just above, and far from least .. most. */
    static void outside(String text, int least, int most, long want) {
        String[] numbers = {Integer.toString(least - 1), Integer.toString(most + 1), "MIN", "MAX"};
        for (String number : numbers) {
            due(text.replace("#", number), want);
        }
    }

    private static int statusBehind(String name, long answer, int latest) {
        if (!TELL_STATUS.contains(name) || answer == Run.BAD) {
            return latest;
        }
        boolean found = answer <= Run.NULL && answer >= Run.STORE;
        return found ? (int) (-1000010 - answer) : 0;
    }
}
