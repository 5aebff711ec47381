import java.lang.management.ManagementFactory;

/** All calls of one run live in one room: the dearest calls, 512 of each, must take little of it. */
public final class RoomTest {
    /** A hundredth of 7.3 million fields and elements, at eight bytes each. */
    private static final long MOST_BYTES = 73_000L * 8;

    private static int wrong = 0;

    public static void main(String[] args) {
        for (int sort = 0; sort < 10; sort++) {
            // The first time of each is not counted: the machine itself makes objects then.
            run(sort);
            long before = bytes();
            run(sort);
            long taken = bytes() - before;
            if (taken > MOST_BYTES) {
                wrong++;
                System.out.println("512 calls of sort " + sort + " took " + taken + " bytes");
            }
        }
        System.out.println(wrong == 0 ? "all runs fit the room" : wrong + " runs do not fit the room");
        if (wrong != 0) {
            System.exit(1);
        }
    }

    private static long bytes() {
        return ((com.sun.management.ThreadMXBean) ManagementFactory.getThreadMXBean()).getCurrentThreadAllocatedBytes();
    }

    private static long run(int sort) {
        FreeParts x = new FreeParts(1999999973);
        x.nth(0, 10, 8000);
        x.nth(1, 10, 4321);
        x.sheet(0, 2, 40);
        x.series(0, 0, 0, 8, 0);
        long sum = 0;
        for (int call = 0; call < 508; call++) {
            sum += oneCall(x, sort, call);
        }
        return sum;
    }

    private static long oneCall(FreeParts x, int sort, int call) {
        switch (sort) {
            case 0: return x.sheet(call % 8, call % 3, 40);
            case 1: return x.part(2, 0, 0, 10);
            case 2: return x.nth(2, 10, call);
            case 3: return x.both(2, 0, 1, 1);
            case 4: return x.told(0, 3);
            case 5: return x.join(1, 0, 0, 3);
            case 6: return x.hankel(0, 4);
            case 7: return x.walks(4, 12);
            case 8: return x.mean(10, 1000);
            default: return x.ask(0, 0);
        }
    }
}
