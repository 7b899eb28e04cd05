import java.lang.reflect.Field;

/** No run of calls makes check() tell 0, so the disk is spoilt from outside. */
public final class Promise22CheckTest {
    public static void main(String[] args) throws ReflectiveOperationException {
        Due due = new Due("promise 22, check");
        TrailStore x = new TrailStore(512);
        due.is("check() of nothing", x.check(), 1);
        for (int i = 0; i < 60; i++) {
            Due.put(x, i % 7, i % 9, i);
            due.is("check() behind put " + i, x.check(), 1);
        }
        changesNothing(due);
        x.crash(0, 0);
        due.is("check() down", x.check(), TrailStore.DOWN);
        x.open();
        due.is("check() after opening", x.check(), 1);
        spoilt(due);
        due.end();
    }

    private static void changesNothing(Due due) {
        TrailStore x = new TrailStore(600);
        Due.put(x, 1, 2, 3);
        x.checkpoint();
        Due.put(x, 2, 2, 4);
        x.begin();
        x.put(3);
        x.type(1L, 1);
        x.get(1);
        x.fail(1, 0, 0);
        due.is("check()", x.check(), 1);
        due.told(x, 0, 28, 2, 14, 4, 1, 5, 1, 7, 3, 10, 1, 11, 0, 12, 1, 13, 1);
        due.is("read(1)", x.read(1), 3);
        due.is("commit()", x.commit(), TrailStore.DOWN);
    }

    private static void spoilt(Due due) throws ReflectiveOperationException {
        int tables = 600;
        int roots = 600 + 15600;
        // key 0's record lies at 0 and is in a table, key 6's at 14 and is in memory; the root is root 1
        int[][] spots = {{0, 2}, {0, 0}, {1, 6}, {7, 9}, {11, 9}, {3, 1}, {14, 0}, {15, 7}, {21, 9}, {25, 9}, {17, 1},
            {14, 129}, {tables + 16, 7}, {tables + 21, 90}, {tables + 25, 3}, {roots + 71, 28}, {roots + 79, 7},
            {roots + 84, 0}};
        for (int[] spot : spots) {
            TrailStore x = new TrailStore(600);
            Due.put(x, 0, 2, 3);
            x.checkpoint();
            Due.put(x, 6, 2, 4);
            byte[] cells = cellsOf(x);
            due.is("check() before", x.check(), 1);
            byte before = cells[spot[0]];
            cells[spot[0]] = (byte) spot[1];
            due.is("check() with " + spot[1] + " at " + spot[0], x.check(), 0);
            cells[spot[0]] = before;
            due.is("check() with it mended", x.check(), 1);
        }
    }

    private static byte[] cellsOf(TrailStore x) throws ReflectiveOperationException {
        Field disk = TrailStore.class.getDeclaredField("disk");
        disk.setAccessible(true);
        Field cells = disk.get(x).getClass().getDeclaredField("cells");
        cells.setAccessible(true);
        return (byte[]) cells.get(disk.get(x));
    }
}
