public final class Promise06CommitTest {
    public static void main(String[] args) {
        Due due = new Due("promise 6, commit");
        ordinary(due);
        none(due);
        full(due);
        sameKeyTwice(due);
        memoryFull(due);
        wholeOrNotAtAll(due);
        due.end();
    }

    private static void ordinary(Due due) {
        TrailStore x = new TrailStore(600);
        x.begin();
        Due.put(x, 1, 1, 10);
        x.put(2);
        x.remove(3);
        due.is("get(1) before", x.get(1), TrailStore.NONE);
        due.is("commit()", x.commit(), 3);
        due.cells(x, 0, 0, 129, 1, 1, 0, 0, 0, 0, 1, 0, 0, 0, 1, 10, 129, 2, 0, 0, 0, 0, 0, 2, 0, 0, 0, 2);
        due.cells(x, 0, 25, 2, 3, 0, 0, 0, 0, 0, 3, 0, 0, 0, 3, 0);
        due.told(x, 0, 37, 3, 4, 5, 3, 7, 7, 8, 2, 13, -1);
        due.value(x, 1, 10);
        due.is("the kind of key 1", x.entry(1, 0), 1);
        due.is("the kind of key 3", x.entry(3, 0), 2);
        due.is("where key 2 is", x.entry(2, 2), 13);
    }

    private static void none(Due due) {
        TrailStore x = new TrailStore(600);
        due.is("commit() without a batch", x.commit(), TrailStore.NONE);
        x.begin();
        due.is("commit() of nothing", x.commit(), TrailStore.NONE);
        due.told(x, 13, -1, 7, 0);
        x.begin();
        x.put(1);
        x.fail(1, 0, 0);
        due.is("commit() at whose 1st write the power fails", x.commit(), TrailStore.DOWN);
        due.is("commit() down", x.commit(), TrailStore.DOWN);
    }

    private static void full(Due due) {
        TrailStore x = new TrailStore(512);
        x.begin();
        for (int key = 0; key < 8; key++) {
            Due.put(x, key, 29, key);
        }
        x.type(1L, 1);
        due.is("commit() of 328 bytes", x.commit(), TrailStore.FULL);
        due.told(x, 0, 0, 3, 1, 5, 0, 7, 0, 12, 1, 13, -1);
        x.put(0);
        x.remove(0);
        due.told(x, 0, 25);
        // a pass makes TAIL 25, so 324 bytes fit to the byte
        x.begin();
        for (int key = 0; key < 8; key++) {
            Due.put(x, key, key < 4 ? 28 : 29, key);
        }
        due.is("commit() of 324 bytes behind a pass", x.commit(), 8);
        due.told(x, 0, 349, 1, 25, 5, 8, 8, 8);
        due.is("check()", x.check(), 1);
    }

    private static void sameKeyTwice(Due due) {
        TrailStore x = new TrailStore(600);
        x.begin();
        Due.put(x, 5, 1, 1);
        x.remove(5);
        Due.put(x, 5, 2, 3);
        due.is("commit()", x.commit(), 3);
        due.value(x, 5, 3, 3);
        due.told(x, 5, 1, 8, 1);
        due.is("its number", x.entry(5, 1), 3);
        x.crash(99, 0);
        due.is("open()", x.open(), 3);
        due.value(x, 5, 3, 3);
    }

    private static void memoryFull(Due due) {
        TrailStore x = new TrailStore(4096);
        for (int key = 0; key < 23; key++) {
            x.put(key);
        }
        x.begin();
        x.put(0);
        x.put(23);
        x.put(23);
        due.is("commit() that makes 24", x.commit(), 3);
        due.told(x, 4, 0, 5, 24);
        x.begin();
        x.put(0);
        x.put(50);
        x.put(50);
        due.is("commit() that would make 25", x.commit(), 3);
        due.told(x, 4, 1, 5, 2, 6, 1);
    }

    /** Two records of 13 bytes are six writes: before the last one is whole there is neither. */
    private static void wholeOrNotAtAll(Due due) {
        for (int keep = 0; keep <= 6; keep++) {
            for (int cut = 0; cut <= 12; cut++) {
                TrailStore x = new TrailStore(600);
                Due.put(x, 1, 1, 1);
                x.sync();
                x.begin();
                Due.put(x, 1, 1, 2);
                Due.put(x, 2, 1, 3);
                x.commit();
                due.is("crash(" + keep + ", " + cut + ")", x.crash(keep, cut), 6);
                boolean whole = keep == 6 || keep == 5 && cut == 12;
                due.is("open() after keeping " + keep + " and " + cut, x.open(), whole ? 3 : 1);
                due.value(x, 1, whole ? 2 : 1);
                due.is("get(2)", x.get(2), whole ? 1 : TrailStore.NONE);
                due.told(x, 0, whole ? 39 : 13, 3, whole ? 4 : 2);
            }
        }
    }
}
