import java.lang.management.ManagementFactory;

/** All that a run makes is made by the constructor: no call makes an object or an array. */
public final class RoomTest {
    /** Bytes of a new object; the room of a run is far larger. */
    private static final long OBJECT_BYTES = 60_000;

    private RoomTest() {
    }

    public static void main(String[] args) {
        Due due = new Due("RoomTest");
        if (ManagementFactory.getThreadMXBean() instanceof com.sun.management.ThreadMXBean threads) {
            OrphanChain[] chains = new OrphanChain[200];
            for (int round = 0; round < 5; round++) {
                made(threads, chains);
                called(threads, chains);
            }
            long made = made(threads, chains) / chains.length;
            due.holds("an object takes " + made + " bytes, which is less than " + OBJECT_BYTES, made < OBJECT_BYTES);
            long called = called(threads, chains);
            due.holds("all calls of " + chains.length + " objects take " + called + " bytes", called < 20_000);
        }
        due.end();
    }

    private static long made(com.sun.management.ThreadMXBean threads, OrphanChain[] chains) {
        long before = threads.getCurrentThreadAllocatedBytes();
        for (int at = 0; at < chains.length; at++) {
            chains[at] = new OrphanChain();
        }
        return threads.getCurrentThreadAllocatedBytes() - before;
    }

    private static long called(com.sun.management.ThreadMXBean threads, OrphanChain[] chains) {
        long before = threads.getCurrentThreadAllocatedBytes();
        for (OrphanChain chain : chains) {
            call(chain);
        }
        return threads.getCurrentThreadAllocatedBytes() - before;
    }

    private static void call(OrphanChain x) {
        x.setPatience(30);
        for (int round = 0; round < 5; round++) {
            x.deposit(1, 100);
            x.pay(1, 2, 30);
            x.fee(2, 10);
            x.note(3);
            x.seal();
            x.goBack(0);
        }
        for (int what = 0; what <= 14; what++) {
            x.count(what);
            x.entry(7, what);
            x.balance(what, 7);
            x.onChain(what);
            x.branch(1, what);
            x.sealed(1, what);
            x.common(what, 9);
            x.failing(2, what);
            x.peak(what, 1);
        }
        x.orders();
        x.take(0);
        x.take(1);
        x.adopt(0, 1);
        x.dismiss(1);
        x.forge(1, 99);
        x.relink(0);
        x.restore(0);
        x.undo();
        for (char sign : new char[] {'0', ':', '1', ',', '1'}) {
            x.append(sign);
        }
        x.check();
        x.clearText();
    }
}
