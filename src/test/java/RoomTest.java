import java.lang.management.ManagementFactory;
import java.util.function.LongSupplier;

/** "All calls of one run live in ONE room": what an object takes as it is made, and what its dearest calls take behind that. */
public final class RoomTest {
    private static final Check CHECK = new Check("RoomTest");
    private static final int CALLS = 80;
    private static final long OBJECT_BYTES = 32768, CALL_BYTES = 64;

    private RoomTest() {
    }

    public static void main(String[] args) {
        madeAnew();
        calls();
        CHECK.finish();
    }

    private static long allocated() {
        com.sun.management.ThreadMXBean threads = (com.sun.management.ThreadMXBean) ManagementFactory.getThreadMXBean();
        return threads.getCurrentThreadAllocatedBytes();
    }

    private static void madeAnew() {
        StepCalls[] all = new StepCalls[20];
        new StepCalls().rule(0);
        long before = allocated();
        for (int i = 0; i < all.length; i++) {
            all[i] = new StepCalls();
        }
        long each = (allocated() - before) / all.length;
        CHECK.due("an object takes " + each + " bytes, no more than " + OBJECT_BYTES, each <= OBJECT_BYTES ? 1 : 0, 1);
    }

    private static void calls() {
        StepCalls x = Given.part();
        x.plan(4, 44);
        x.plan(5, 33);
        takes("runs", () -> x.runs(1));
        takes("ask", () -> x.ask(3, 0));
        takes("deads", () -> x.deads(3));
        StepCalls y = Given.part();
        y.plan(4, 44);
        y.plan(5, 33);
        takes("luck", () -> y.luck(3, 4, 5, 0));
        takes("mean", () -> y.mean(3, 0));
        takes("drift", () -> y.drift(3, 60, 0));
        StepCalls z = Given.part();
        takes("swap", () -> z.swap(0));
        takes("keep, back", () -> z.keep(0) + z.back(0));
        takes("sheet", () -> z.sheet(0, 2, 40));
        takes("text", () -> z.text());
    }

    private static void takes(String call, LongSupplier answer) {
        answer.getAsLong();
        long before = allocated();
        for (int i = 0; i < CALLS; i++) {
            answer.getAsLong();
        }
        long each = (allocated() - before) / CALLS;
        CHECK.due(call + " takes " + each + " bytes, no more than " + CALL_BYTES, each <= CALL_BYTES ? 1 : 0, 1);
    }
}
