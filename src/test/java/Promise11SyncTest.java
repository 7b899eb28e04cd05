public final class Promise11SyncTest {
    public static void main(String[] args) {
        Due due = new Due("promise 11, sync");
        TrailStore x = new TrailStore(600);
        due.is("sync() of nothing", x.sync(), 0);
        Due.put(x, 1, 2, 5);
        x.put(2);
        due.told(x, 7, 5);
        due.is("sync()", x.sync(), 5);
        due.told(x, 7, 0);
        due.is("sync() again", x.sync(), 0);
        Due.put(x, 1, 2, 6);
        due.is("crash(0, 0)", x.crash(0, 0), 3);
        due.is("sync() down", x.sync(), TrailStore.DOWN);
        due.is("open()", x.open(), 2);
        due.value(x, 1, 5, 5);
        due.is("get(2)", x.get(2), 0);
        due.is("sync() after opening", x.sync(), 0);
        x.begin();
        Due.put(x, 3, 1, 1);
        due.is("sync() with a batch", x.sync(), 0);
        x.commit();
        due.is("sync() behind it", x.sync(), 3);
        x.fail(1, 0, 0);
        due.is("sync(), which is no write", x.sync(), 0);
        due.is("put(4)", x.put(4), TrailStore.DOWN);
        due.is("open()", x.open(), 3);
        manyAtOnce(due);
        due.end();
    }

    /** As many writes as fit between two syncs, all of them taken back. */
    private static void manyAtOnce(Due due) {
        TrailStore x = new TrailStore(4096);
        int records = (4096 - 176 - 12) / 13;
        for (int i = 0; i < records; i++) {
            Due.put(x, i % 24, 1, i);
        }
        due.told(x, 0, 13 * records, 4, 0, 7, 3 * records);
        due.is("crash(0, 0)", x.crash(0, 0), 3 * records);
        for (int i = 0; i < 4096; i++) {
            due.is("cell(0, " + i + ")", x.cell(0, i), 0);
        }
        due.is("open()", x.open(), 0);
        records = (4096 - 176 - 12) / 12;
        for (int i = 0; i < records; i++) {
            x.put(i % 24);
        }
        due.is("sync() of records of no bytes", x.sync(), 2 * records);
        due.told(x, 4, 0);
    }
}
