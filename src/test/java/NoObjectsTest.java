import com.sun.management.ThreadMXBean;
import java.lang.management.ManagementFactory;

/** No call makes an object or a row. */
public final class NoObjectsTest {
    private static final int OBJECTS = 25;
    /** Of 24 calls each: an object is used for 512 calls alone. */
    private static final int ROUNDS = 21;

    public static void main(String[] args) {
        Due due = new Due("Terms: the store's memory");
        due.sentence("All memory is the store's own, made with it.");
        ThreadMXBean threads = (ThreadMXBean) ManagementFactory.getThreadMXBean();
        allCalls(objects());
        TrailStore[] x = objects();
        threads.getCurrentThreadAllocatedBytes();
        long before = threads.getCurrentThreadAllocatedBytes();
        allCalls(x);
        long made = threads.getCurrentThreadAllocatedBytes() - before;
        // the question itself may cost some bytes, but one object in each round would be far more
        due.is("whether " + made + " bytes made are below 2000", made < 2000 ? 1 : 0, 1);
        due.end();
    }

    private static TrailStore[] objects() {
        TrailStore[] made = new TrailStore[OBJECTS];
        for (int i = 0; i < OBJECTS; i++) {
            made[i] = new TrailStore(500 + 40 * i);
        }
        return made;
    }

    private static void allCalls(TrailStore[] x) {
        for (int i = 0; i < OBJECTS * ROUNDS; i++) {
            calls(x[i / ROUNDS], i);
        }
    }

    private static void calls(TrailStore x, int i) {
        x.type(i, 5);
        x.put(i % 13);
        x.begin();
        x.type(i, 2);
        x.put(20 + i % 20);
        x.remove(19 + i % 20);
        x.commit();
        x.get(i % 40);
        x.read(0);
        x.next(3);
        x.check();
        x.told(i % 15);
        x.table(0, i % 7);
        x.entry(i % 40, 1);
        x.cell(i % 3, i);
        x.begin();
        x.cancel();
        x.sync();
        x.collect(1 + i % 5);
        x.fail(1 + i % 50, 1, 1);
        x.checkpoint();
        x.spare();
        x.crash(i % 3, 2);
        x.open();
    }
}
