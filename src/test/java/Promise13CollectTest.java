public final class Promise13CollectTest {
    public static void main(String[] args) {
        Due due = new Due("promise 13, collect");
        wrongNumbers(due);
        ordinary(due);
        noRoom(due);
        memoryFull(due);
        lastOfBatch(due);
        failing(due);
        due.end();
    }

    private static void wrongNumbers(Due due) {
        TrailStore x = new TrailStore(600);
        x.put(1);
        for (int n : new int[] {0, -1, 1001, Integer.MIN_VALUE, Integer.MAX_VALUE}) {
            due.is("collect(" + n + ")", x.collect(n), TrailStore.NONE);
            due.told(x, 4, 0, 7, 2);
        }
        TrailStore y = new TrailStore(600);
        due.is("collect(1000) of nothing", y.collect(1000), 0);
        due.told(y, 4, 0);
        y.crash(0, 0);
        due.is("collect(1) down", y.collect(1), TrailStore.DOWN);
        due.is("collect(0) down", y.collect(0), TrailStore.DOWN);
    }

    private static void ordinary(Due due) {
        TrailStore x = new TrailStore(600);
        Due.put(x, 1, 2, 11);
        Due.put(x, 2, 3, 22);
        Due.put(x, 1, 4, 33);
        x.remove(2);
        Due.put(x, 3, 5, 44);
        // places: 0, 14, 29, 45, 57; HEAD 74
        due.is("collect(1), of what is over", x.collect(1), 1);
        due.told(x, 0, 74, 1, 14, 2, 74, 3, 6, 4, 2, 5, 0, 6, 1, 7, 0);
        due.cells(x, 2, 0, 0, 0, 0, 2, 0, 0, 0, 74, 0, 0, 0, 14, 0, 0, 0, 6, 0, 0, 0, 2, 1, 0);
        due.is("collect(2)", x.collect(2), 2);
        due.told(x, 0, 90, 1, 45, 2, 74, 3, 7, 4, 3, 5, 1, 7, 0);
        due.cells(x, 0, 74, 1, 1, 4, 0, 0, 0, 0, 6, 0, 0, 0, 6, 33, 33, 33, 33, 0);
        due.is("entry(1, 1)", x.entry(1, 1), 6);
        due.is("entry(1, 2)", x.entry(1, 2), 74);
        due.is("entry(1, 3)", x.entry(1, 3), 1);
        // the checkpoint is not HEAD now, so there is one first; and the removal's record is passed
        due.is("collect(1)", x.collect(1), 1);
        due.told(x, 0, 90, 1, 57, 2, 90, 4, 5, 5, 0, 6, 2);
        due.is("collect(1000), to HEAD as it was", x.collect(1000), 2);
        due.told(x, 0, 123, 1, 90, 2, 90, 4, 6, 5, 2);
        due.value(x, 1, 33, 33, 33, 33);
        due.value(x, 3, 44, 44, 44, 44, 44);
        due.is("get(2)", x.get(2), TrailStore.NONE);
        due.is("check()", x.check(), 1);
        due.is("crash(0, 0)", x.crash(0, 0), 0);
        due.is("open()", x.open(), 2);
        due.told(x, 0, 123, 1, 90, 2, 90, 3, 9, 4, 6, 5, 2);
        due.value(x, 1, 33, 33, 33, 33);
    }

    private static void noRoom(Due due) {
        thirdRecord(due, 28, 3);
        thirdRecord(due, 29, 2);
    }

    /** HEAD is 324; 76, 60 and 40 bytes more, and 12, are 512. */
    private static void thirdRecord(Due due, int length, int looked) {
        TrailStore x = new TrailStore(512);
        Due.put(x, 0, 64, 1);
        Due.put(x, 1, 48, 1);
        Due.put(x, 2, length, 1);
        Due.put(x, 3, 64, 1);
        Due.put(x, 4, 88 - length, 1);
        due.told(x, 0, 324, 4, 0);
        due.is("collect(1000) with a third of " + length + " bytes", x.collect(1000), looked);
        due.told(x, 0, looked == 3 ? 500 : 460, 1, looked == 3 ? 176 : 136, 2, 324, 5, looked, 8, 5);
        due.is("check()", x.check(), 1);
    }

    private static void memoryFull(Due due) {
        TrailStore x = new TrailStore(4096);
        for (int key = 0; key < 30; key++) {
            x.put(key);
        }
        due.is("collect(1000)", x.collect(1000), 24);
        due.told(x, 0, 54 * 12, 1, 24 * 12, 2, 30 * 12, 5, 24);
        due.is("collect(1000)", x.collect(1000), 24);
        due.told(x, 1, 48 * 12, 5, 24);
        due.is("check()", x.check(), 1);
        TrailStore y = new TrailStore(4096);
        for (int key = 0; key < 24; key++) {
            y.put(key);
        }
        y.put(30);
        y.remove(30);
        y.put(31);
        // 24 are moved, 30's two records need no memory, 31's would
        due.is("collect(1000) to the 25th", y.collect(1000), 26);
        due.told(y, 1, 26 * 12, 5, 24, 8, 25);
    }

    private static void lastOfBatch(Due due) {
        TrailStore x = new TrailStore(600);
        x.begin();
        Due.put(x, 1, 1, 1);
        Due.put(x, 2, 1, 2);
        x.commit();
        due.is("collect(1)", x.collect(1), 1);
        due.is("the kind that was 129", x.cell(0, 26), 1);
        due.is("its key", x.cell(0, 27), 1);
        x.crash(0, 0);
        due.is("open()", x.open(), 1);
        due.value(x, 1, 1);
        due.value(x, 2, 2);
    }

    /** A checkpoint is four writes, two records moved are six, the root is three. */
    private static void failing(Due due) {
        for (int n = 1; n <= 14; n++) {
            for (int keep = 0; keep < 7; keep++) {
                TrailStore x = new TrailStore(600);
                Due.put(x, 1, 1, 10);
                Due.put(x, 2, 1, 20);
                x.sync();
                x.fail(n, keep, 2);
                due.is("collect(5) failing at " + n, x.collect(5), n < 14 ? TrailStore.DOWN : 2);
                if (n < 14) {
                    x.open();
                }
                due.value(x, 1, 10);
                due.value(x, 2, 20);
                due.told(x, 8, 2);
                due.is("check()", x.check(), 1);
            }
        }
    }
}
