public final class Promise06CommitTest {
    public static void main(String[] args) {
        Due due = new Due("Promise 6: commit");
        written(due);
        withoutBatch(due);
        withoutRecords(due);
        full(due);
        toTheByte(due);
        down(due);
        failing(due);
        due.end();
    }

    private static void written(Due due) {
        due.sentence("The batch's records are written, and it is over: how many.");
        for (int count = 1; count <= 8; count++) {
            TrailStore x = new TrailStore(600);
            x.begin();
            for (int i = 0; i < count; i++) {
                Due.put(x, i, 1, 10 + i);
            }
            x.type(77L, 1);
            due.is("commit() of " + count, x.commit(), count);
            due.told(x, 0, 13 * count, 3, count + 1, 5, count, 7, 3 * count, 8, count, 12, 1, 13, -1);
            for (int i = 0; i < count; i++) {
                due.value(x, i, 10 + i);
            }
            due.none("commit() again", x.commit());
        }
        TrailStore x = new TrailStore(600);
        x.begin();
        Due.put(x, 5, 1, 1);
        x.remove(5);
        Due.put(x, 5, 2, 3);
        due.is("commit() of one key thrice", x.commit(), 3);
        due.value(x, 5, 3, 3);
        due.entry(x, 5, 1, 3, 25, 1);
        due.told(x, 5, 1, 8, 1);
    }

    private static void withoutBatch(Due due) {
        due.sentence("NONE without a batch");
        TrailStore x = new TrailStore(600);
        x.type(1L, 1);
        due.none("commit()", x.commit());
        due.told(x, 0, 0, 7, 0, 12, 1, 13, -1);
        x.begin();
        x.put(1);
        x.cancel();
        due.none("commit() behind a cancel", x.commit());
        due.told(x, 0, 0);
    }

    private static void withoutRecords(Due due) {
        due.sentence("or one without records (it is over then)");
        TrailStore x = new TrailStore(600);
        x.begin();
        due.none("commit()", x.commit());
        due.told(x, 0, 0, 7, 0, 13, -1);
        due.is("put(1), which is written at once", x.put(1), 1);
        due.told(x, 0, 12);
        due.is("begin()", x.begin(), 1);
    }

    private static void full(Due due) {
        due.sentence("FULL: it is over, none is written.");
        TrailStore x = new TrailStore(512);
        x.begin();
        for (int key = 0; key < 8; key++) {
            Due.put(x, key, 29, key);
        }
        x.type(1L, 1);
        due.full("commit() of 328 bytes where 324 are free", x.commit());
        due.told(x, 0, 0, 3, 1, 4, 0, 5, 0, 7, 0, 8, 0, 12, 1, 13, -1);
        due.none("commit() again", x.commit());
        due.is("put(1), which is written at once", x.put(1), 1);
        due.value(x, 1, 1);
    }

    private static void toTheByte(Due due) {
        due.sentence("FREELY if not more than ROOM less 176");
        TrailStore x = new TrailStore(512);
        x.begin();
        for (int key = 0; key < 8; key++) {
            Due.put(x, key, key < 4 ? 28 : 29, key);
        }
        due.is("commit() of 324 bytes", x.commit(), 8);
        due.told(x, 0, 324, 1, 0, 4, 0, 8, 8);
        TrailStore y = new TrailStore(512);
        y.begin();
        for (int key = 0; key < 8; key++) {
            Due.put(y, key, key < 3 ? 28 : 29, key);
        }
        due.full("commit() of 325 bytes", y.commit());
        due.told(y, 0, 0);
    }

    private static void down(Due due) {
        due.sentence("FULL: it is over, none is written. DOWN.");
        TrailStore x = new TrailStore(600);
        x.begin();
        x.put(1);
        x.crash(0, 0);
        due.down("commit()", x.commit());
        x.open();
        due.none("commit() after opening", x.commit());
    }

    private static void failing(Due due) {
        due.sentence("the call under way ends with DOWN and does nothing more");
        for (int n = 1; n <= 6; n++) {
            TrailStore x = new TrailStore(600);
            x.begin();
            Due.put(x, 1, 1, 1);
            Due.put(x, 2, 1, 1);
            x.fail(n, 9, 0);
            due.down("commit() at whose write " + n + " the power fails", x.commit());
            due.is("open()", x.open(), n == 6 ? 2 : 0);
            due.told(x, 8, n == 6 ? 2 : 0, 13, -1);
        }
    }
}
