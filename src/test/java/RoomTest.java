import java.lang.management.ManagementFactory;
import java.util.function.IntConsumer;

/** All calls of one run live in one room, so a call must not take more of it than the run can bear. */
public final class RoomTest {
    /** Less than what 600,000 objects and 7.3 million numbers take. */
    private static final long MOST_BYTES = 8_000_000;
    private static final int CALLS = 512;
    private static final Check check = new Check("RoomTest");

    public static void main(String[] args) {
        run(100);
        Tallow importer = new Tallow();
        check.same("a new object fits", fits(call -> new Tallow(), 1), 1);
        check.same("512 calls that write, and read all, fit", fits(call -> writeAndRead(importer, call), CALLS / 2), 1);
        check.end();
    }

    /** Lets the machine load what it needs, so that only the calls are measured. */
    private static void run(int calls) {
        Tallow importer = new Tallow();
        for (int call = 0; call < calls; call++) {
            writeAndRead(importer, call);
        }
    }

    private static void writeAndRead(Tallow importer, int call) {
        importer.sign(call % 20 == 19 ? 5 : 3);
        importer.digest();
    }

    private static int fits(IntConsumer made, int calls) {
        var machine = (com.sun.management.ThreadMXBean) ManagementFactory.getThreadMXBean();
        long before = machine.getCurrentThreadAllocatedBytes();
        for (int call = 0; call < calls; call++) {
            made.accept(call);
        }
        long bytes = machine.getCurrentThreadAllocatedBytes() - before;
        System.out.println("RoomTest: " + calls + " times took " + bytes + " bytes");
        return bytes <= MOST_BYTES ? 1 : 0;
    }
}
