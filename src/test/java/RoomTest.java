import java.lang.management.ManagementFactory;
import java.util.function.IntConsumer;

/** All calls of a run share one room: an object is made once, and its calls make nothing more. */
public final class RoomTest {
    private static final Check check = new Check("RoomTest");
    private static final int TIMES = 500;
    private static final com.sun.management.ThreadMXBean THREADS =
        (com.sun.management.ThreadMXBean) ManagementFactory.getThreadMXBean();
    private static long kept;

    public static void main(String[] args) {
        DuskStones[] many = new DuskStones[TIMES];
        long each = bytes(i -> many[i] = new DuskStones()) / TIMES;
        check.holds("an object takes " + each + " bytes", each < 10000);
        DuskStones x = Check.told("h9 1 170 9;h9 0 511 7;h5 2 4 5;h2 0 0 3;j0 1 2;j1 2 1;j2 3 1;m5;m9;m7;o6;r37;");
        makesNothing("work", i -> kept += x.order(i % 3, i % 4) + x.hour() + (i % 5 == 0 ? x.undo() : 0));
        makesNothing("highest", i -> kept += x.highest(i % 4, i % 6));
        makesNothing("days", i -> kept += x.days(i % 4) + x.little(i % 4) + x.crew(i % 4) + x.blocks(i % 4));
        makesNothing("odds", i -> kept += x.odds(i % 4, 1 + i % 4, i % 11, i % 2));
        makesNothing("evenings", i -> kept += x.saw(i % 4, i % 5) + x.evening() + x.written(i % 9, i % 4));
        makesNothing("kinds", i -> kept += x.rate(i % 6, i % 4) + x.wear(i % 4, 1) + x.forget());
        makesNothing("images", i -> kept += x.keep(i % 2) + x.back(i % 2));
        makesNothing("the text", i -> kept += x.type('m') + x.type('1') + x.type(';') + x.hills());
        check.finish();
    }

    private static long bytes(IntConsumer calls) {
        long me = Thread.currentThread().getId();
        long before = THREADS.getThreadAllocatedBytes(me);
        for (int i = 0; i < TIMES; i++) {
            calls.accept(i);
        }
        return THREADS.getThreadAllocatedBytes(me) - before;
    }

    private static void makesNothing(String what, IntConsumer calls) {
        bytes(calls);
        // Less than a byte a call: what is left over is the measuring itself.
        long made = bytes(calls);
        check.holds(what + " makes " + made + " bytes in " + TIMES + " turns", made < TIMES);
    }
}
