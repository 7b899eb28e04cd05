import com.sun.management.ThreadMXBean;
import java.lang.management.ManagementFactory;

/** All memory is made with the store: no call makes an object or a row. */
public final class NoObjectsTest {
    public static void main(String[] args) {
        Due due = new Due("no objects");
        ThreadMXBean threads = (ThreadMXBean) ManagementFactory.getThreadMXBean();
        calls(new TrailStore(700));
        TrailStore x = new TrailStore(700);
        threads.getCurrentThreadAllocatedBytes();
        long before = threads.getCurrentThreadAllocatedBytes();
        calls(x);
        long made = threads.getCurrentThreadAllocatedBytes() - before;
        // the question itself may cost some bytes, but one object in each call would be far more
        due.is("whether " + made + " bytes made are below 2000", made < 2000 ? 1 : 0, 1);
        due.end();
    }

    private static void calls(TrailStore x) {
        for (int i = 0; i < 500; i++) {
            x.type(i, 5);
            x.put(i % 13);
            x.begin();
            x.type(i, 2);
            x.put(20 + i % 20);
            x.remove(19 + i % 20);
            x.commit();
            x.get(i % 40);
            x.read(0);
            x.next(3);
            x.check();
            x.told(i % 15);
            x.table(0, i % 7);
            x.entry(i % 40, 1);
            x.cell(i % 3, i);
            x.begin();
            x.cancel();
            x.sync();
            x.collect(1 + i % 5);
            x.fail(1 + i % 50, 1, 1);
            x.checkpoint();
            x.spare();
            x.crash(i % 3, 2);
            x.open();
        }
    }
}
