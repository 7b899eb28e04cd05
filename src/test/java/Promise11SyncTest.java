public final class Promise11SyncTest {
    public static void main(String[] args) {
        Due due = new Due("Promise 11: sync");
        howMany(due);
        noWrites(due);
        mostAtOnce(due);
        isNoWrite(due);
        down(due);
        due.end();
    }

    private static void howMany(Due due) {
        due.sentence("A sync: how many writes were not lasting.");
        TrailStore x = new TrailStore(600);
        Due.put(x, 1, 2, 5);
        x.put(2);
        due.told(x, 7, 5);
        due.is("sync()", x.sync(), 5);
        due.told(x, 7, 0);
        due.is("sync() again", x.sync(), 0);
        x.remove(2);
        due.is("sync() behind a removal", x.sync(), 2);
        x.begin();
        Due.put(x, 3, 1, 1);
        due.is("sync() with a batch", x.sync(), 0);
        x.commit();
        due.is("sync() behind it", x.sync(), 3);
        x.put(5);
        due.is("crash(0, 0)", x.crash(0, 0), 2);
        due.is("open()", x.open(), 4);
        due.value(x, 1, 5, 5);
        due.none("get(5)", x.get(5));
    }

    private static void noWrites(Due due) {
        due.sentence("how many writes were not lasting");
        TrailStore x = new TrailStore(600);
        due.is("sync() of a new object", x.sync(), 0);
        x.put(1);
        x.checkpoint();
        due.is("sync() behind a checkpoint", x.sync(), 0);
        x.put(1);
        x.collect(1000);
        due.is("sync() behind a collect", x.sync(), 0);
        x.put(2);
        x.crash(1, 3);
        x.open();
        due.is("sync() behind an opening", x.sync(), 0);
    }

    /** As many writes as fit between two syncs. */
    private static void mostAtOnce(Due due) {
        due.sentence("in their order, the first KEEP are on the disk");
        int records = (4096 - 176 - 12) / 12;
        TrailStore x = manyWrites(records);
        due.told(x, 0, 12 * records, 4, 0, 7, 2 * records);
        due.is("crash(0, 0)", x.crash(0, 0), 2 * records);
        for (int i = 0; i < 120; i++) {
            due.is("the log's byte " + i, x.cell(0, i), 0);
        }
        due.is("open()", x.open(), 0);
        TrailStore y = manyWrites(records);
        due.is("crash of all but one", y.crash(2 * records - 1, 0), 2 * records);
        due.is("open()", y.open(), records - 1);
        TrailStore z = manyWrites(records);
        due.is("sync()", z.sync(), 2 * records);
        due.is("crash(0, 0)", z.crash(0, 0), 0);
        due.is("open()", z.open(), records);
    }

    private static TrailStore manyWrites(int records) {
        TrailStore x = new TrailStore(4096);
        for (int i = 0; i < records; i++) {
            x.put(i % 24);
        }
        return x;
    }

    private static void isNoWrite(Due due) {
        due.sentence("A SYNC makes all writes up to then LASTING.");
        TrailStore x = new TrailStore(600);
        x.put(1);
        x.fail(1, 0, 0);
        due.is("sync(), which is no write", x.sync(), 2);
        due.down("put(4)", x.put(4));
        due.is("open()", x.open(), 1);
    }

    private static void down(Due due) {
        due.sentence("how many writes were not lasting. DOWN.");
        TrailStore x = new TrailStore(600);
        x.put(1);
        x.crash(0, 0);
        due.down("sync()", x.sync());
        due.is("open()", x.open(), 0);
    }
}
