import java.lang.management.ManagementFactory;

/** A run's calls live in one room: an object is small, and its calls make nothing but exceptions. */
public final class BudgetTest {
    private static final com.sun.management.ThreadMXBean THREADS =
            (com.sun.management.ThreadMXBean) ManagementFactory.getThreadMXBean();
    private static final String HARD = "@-------/--------/--$-$---/---$----/--$-----/--------/-----.../.-------";

    public static void main(String[] args) {
        Check check = new Check();
        PusherRoom x = new PusherRoom();
        for (int i = 0; i < 20; i++) {
            everyCall(x);
        }
        long before = bytes();
        for (int i = 0; i < 20; i++) {
            everyCall(x);
        }
        long made = bytes() - before;
        check.due("bytes of 20 rounds of calls, " + made + ", are few", true, () -> made < 20_000);
        long beforeObject = bytes();
        PusherRoom y = new PusherRoom();
        long object = bytes() - beforeObject;
        check.due("bytes of an object, " + object + ", are few", true, () -> y.count(0) == 0 && object < 60_000);
        check.end("BudgetTest");
    }

    private static long bytes() {
        return THREADS.getThreadAllocatedBytes(Thread.currentThread().getId());
    }

    private static void type(PusherRoom x, String text) {
        for (int i = 0; i < text.length(); i++) {
            x.feed(text.charAt(i));
        }
    }

    /** Calls that throw nothing, but for a search that gives up. */
    private static void everyCall(PusherRoom x) {
        type(x, HARD);
        x.readRoom();
        for (int what = 0; what <= 8; what++) {
            x.cells(what);
            x.count(what);
        }
        x.bound();
        x.stuck(false);
        x.distance(18, -1);
        try {
            x.solve(1000, false);
        } catch (ArithmeticException e) {
            x.count(9);
        }
        x.push(18, 0);
        x.longPush(10, 1);
        x.step(0);
        type(x, "2l2r");
        x.play();
        x.saveSnapshot();
        x.undo();
        x.isReplayed();
        x.restoreSnapshot();
    }
}
