import java.lang.management.ManagementFactory;

/** What one call makes is small: all calls of a run live in one room. */
public final class RoomTest {
    // 7.3 million elements among 512 calls are some 14,000 a call; this is far below, in bytes
    private static final long MOST_BYTES_A_CALL = 8192;
    private static final long MOST_BYTES_A_NEW_ONE = 16384;

    private static final com.sun.management.ThreadMXBean THREADS =
        (com.sun.management.ThreadMXBean) ManagementFactory.getThreadMXBean();

    public static void main(String[] args) {
        String studio = Checks.times(8, "seat 7;") + Checks.times(6, "sitter 7 60;") + Checks.times(8, "sitting 90;");
        StillYear x = Checks.in(studio);
        Checks.book(x, "0 4900;1 4900;2 4900;3 4900;4 4900;5 4900;6 4900;7 4900;");
        small("new", MOST_BYTES_A_NEW_ONE, () -> new StillYear().fault());
        small("work and undo", 2 * MOST_BYTES_A_CALL, () -> {
            Checks.work(x, "sit 0 0;sit 1 1;sit 2 2;again 60[day;again 2[feed 0;];];");
            return x.undo();
        });
        small("image and restore", 2 * MOST_BYTES_A_CALL, () -> x.image() + x.restore());
        small("span", MOST_BYTES_A_CALL, () -> x.span(1, 20, 16, 96, 0));
        small("ahead", MOST_BYTES_A_CALL, () -> x.ahead(99, 0));
        small("when", MOST_BYTES_A_CALL, () -> x.when(0));
        small("placed", MOST_BYTES_A_CALL, () -> x.placed(5));
        small("packed", MOST_BYTES_A_CALL, () -> x.packed(7));
        small("goings", MOST_BYTES_A_CALL, () -> x.goings(0, 0));
        small("new and studio", MOST_BYTES_A_NEW_ONE + MOST_BYTES_A_CALL, () -> new StillYear().studio(0));
        small("law", MOST_BYTES_A_CALL, () -> Checks.law(x, "light + dark * still"));
        small("book", MOST_BYTES_A_CALL, () -> Checks.book(x, "0 1;1 1;"));
        Checks.end("RoomTest");
    }

    private static void small(String what, long most, Checks.Call call) {
        for (int i = 0; i < 3; i++) {
            call.ask();
        }
        long before = THREADS.getCurrentThreadAllocatedBytes();
        call.ask();
        long made = THREADS.getCurrentThreadAllocatedBytes() - before;
        if (made > most) {
            Checks.wrong(what + " makes " + made + " bytes, " + most + " are the most");
        }
    }
}
