import java.lang.management.ManagementFactory;

/** What 512 of the dearest calls take of the room that all calls of one run live in. */
public final class RoomTest {
    private static final Check CHECK = new Check("RoomTest");
    private static final int CALLS = 512;
    /** The room is some 600,000 objects of 16 bytes beside their 7.3 million fields and elements of 4 bytes. */
    private static final long MOST_BYTES = 600000L * 16 + 7300000L * 4;

    public static void main(String[] args) {
        long before = allocated();
        vectorsAtEachStep();
        long between = allocated();
        callsAndResets();
        long after = allocated();
        tell("vectors at each step", between - before);
        tell("calls and resets", after - between);
        CHECK.end();
    }

    private static long allocated() {
        com.sun.management.ThreadMXBean threads = (com.sun.management.ThreadMXBean) ManagementFactory.getThreadMXBean();
        return threads.getThreadAllocatedBytes(Thread.currentThread().getId());
    }

    private static void tell(String what, long bytes) {
        System.out.println(what + ": " + bytes + " bytes");
        CHECK.due(what + " within the room", true, bytes > 0 && bytes < MOST_BYTES);
    }

    /** Nots of sixteen elements, in a repetition that only the limit of steps ends. */
    private static void vectorsAtEachStep() {
        VectorLanguage x = new VectorLanguage();
        int deep = x.expression(11, x.expression(0, 1, 0, 0), x.expression(0, 16, 0, 0), 0);
        for (int k = 0; k < 35; k++) {
            deep = x.expression(9, deep, 0, 0);
        }
        int endless = x.expression(17, x.expression(0, 1, 0, 0), deep, 0);
        runOften(x, endless, false);
    }

    /** Calls with two arguments, until a limit ends the run, each time after a reset. */
    private static void callsAndResets() {
        VectorLanguage x = new VectorLanguage();
        int both = x.expression(10, x.expression(3, 0, 0, 0), x.expression(3, 1, 0, 0), 0);
        int function = x.expression(19, both, 2, 0);
        int number = x.expression(0, 1, 0, 0);
        int call = x.expression(20, function, number, number);
        int endless = x.expression(17, call, call, 0);
        runOften(x, endless, true);
    }

    private static void runOften(VectorLanguage x, int endless, boolean withResets) {
        int left = CALLS - 1 - x.count(0);
        int runs = withResets ? left / 2 : left;
        for (int k = 0; k < runs; k++) {
            String outcome = Check.outcome(() -> x.run(endless));
            if (!outcome.equals("IllegalStateException")) {
                CHECK.due("the run", "IllegalStateException", outcome);
            }
            if (withResets) {
                x.reset();
            }
        }
    }
}
