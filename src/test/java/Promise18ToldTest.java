public final class Promise18ToldTest {
    public static void main(String[] args) {
        Due due = new Due("Promise 18: told");
        fromCallToCall(due);
        keysThere(due);
        lookedInto(due);
        inMemory(due);
        beforeAny(due);
        fromOpeningOn(due);
        tapeAndBatch(due);
        others(due);
        down(due);
        due.end();
    }

    private static void fromCallToCall(Due due) {
        due.sentence("What = 0 HEAD, 1 TAIL, 2 the checkpoint, 3 the next record's number, 4 the version, "
                + "5 memory's entries, 6 tables in use, 7 writes that are not lasting");
        TrailStore x = new TrailStore(600);
        Due.put(x, 5, 2, 1);
        Due.put(x, 7, 3, 1);
        due.told(x, 0, 29, 1, 0, 2, 0, 3, 3, 4, 0, 5, 2, 6, 0, 7, 6, 14, 1);
        x.remove(5);
        due.told(x, 0, 41, 1, 0, 2, 0, 3, 4, 4, 0, 5, 2, 6, 0, 7, 8, 14, 1);
        x.checkpoint();
        due.told(x, 0, 41, 1, 0, 2, 41, 3, 4, 4, 1, 5, 0, 6, 1, 7, 0, 14, 2);
        x.collect(2);
        due.told(x, 0, 56, 1, 29, 2, 41, 3, 5, 4, 2, 5, 1, 6, 1, 7, 0, 14, 2);
        x.put(9);
        due.told(x, 0, 68, 1, 29, 2, 41, 3, 6, 4, 2, 5, 2, 6, 1, 7, 2, 14, 2);
        x.collect(1);
        due.told(x, 0, 68, 1, 41, 2, 68, 3, 6, 4, 4, 5, 0, 6, 2, 7, 0, 14, 3);
    }

    private static void keysThere(Due due) {
        due.sentence("8 keys that are there, 9 bytes of their records");
        TrailStore x = new TrailStore(4096);
        due.told(x, 8, 0, 9, 0);
        x.put(0);
        due.told(x, 8, 1, 9, 12);
        Due.put(x, 119, 64, 1);
        due.told(x, 8, 2, 9, 88);
        Due.put(x, 119, 63, 1);
        due.told(x, 8, 2, 9, 87);
        x.checkpoint();
        due.told(x, 8, 2, 9, 87);
        x.remove(119);
        due.told(x, 8, 1, 9, 12);
        x.begin();
        x.put(5);
        due.told(x, 8, 1, 9, 12);
        x.commit();
        due.told(x, 8, 2, 9, 24);
        Due.putAll(x, 0, 120);
        due.told(x, 8, 120, 9, 1440);
    }

    private static void looked(Due due, TrailStore x, int key, int into, int past) {
        x.get(key);
        due.is("told(10) after get(" + key + ")", x.told(10), into);
        due.is("told(11) after get(" + key + ")", x.told(11), past);
    }

    /** A table of 5 and 7: bits 3, 28, 17, 18. One of 0: bits 0, 5. */
    private static TrailStore twoTables() {
        TrailStore x = new TrailStore(600);
        x.put(5);
        x.put(7);
        x.checkpoint();
        x.put(0);
        x.checkpoint();
        return x;
    }

    private static void lookedInto(Due due) {
        due.sentence("10 tables that the latest get() looked into, 11 those that it passed by their filters");
        TrailStore x = twoTables();
        looked(due, x, 7, 1, 1);
        looked(due, x, 0, 1, 0);
        // 9 has bits 31 and 8, 4 has 28 and 17, 32 has 0 and 5; one bit alone: 19 has 5 and 22, 17 has 23 and 0
        looked(due, x, 9, 0, 2);
        looked(due, x, 4, 1, 1);
        looked(due, x, 32, 1, 1);
        looked(due, x, 19, 0, 2);
        looked(due, x, 17, 0, 2);
        looked(due, x, 4, 1, 1);
        x.entry(5, 0);
        x.next(0);
        x.remove(1);
        x.remove(0);
        x.check();
        due.told(x, 8, 2, 10, 1, 11, 1);
        looked(due, x, -1, 0, 0);
        looked(due, x, 4, 1, 1);
        looked(due, x, 120, 0, 0);
        x.remove(5);
        x.put(32);
        x.checkpoint();
        // the newest table has 0, 5 and 32: bits 0, 5, 3, 28
        looked(due, x, 5, 1, 0);
        looked(due, x, 0, 1, 0);
        looked(due, x, 32, 1, 0);
        looked(due, x, 7, 1, 2);
        looked(due, x, 64, 2, 1);
    }

    private static void inMemory(Due due) {
        due.sentence("both 0 when memory had it");
        TrailStore x = twoTables();
        looked(due, x, 5, 1, 1);
        x.put(5);
        due.told(x, 10, 1, 11, 1);
        looked(due, x, 5, 0, 0);
        looked(due, x, 7, 1, 1);
        x.remove(7);
        looked(due, x, 7, 0, 0);
    }

    private static void beforeAny(Due due) {
        due.sentence("before any");
        TrailStore x = twoTables();
        due.told(x, 10, 0, 11, 0);
        x.entry(5, 0);
        x.next(0);
        due.told(x, 10, 0, 11, 0);
    }

    private static void fromOpeningOn(Due due) {
        due.sentence("and from opening on");
        TrailStore x = twoTables();
        looked(due, x, 7, 1, 1);
        x.crash(0, 0);
        due.down("get(0)", x.get(0));
        due.told(x, 10, 1, 11, 1);
        x.open();
        due.told(x, 10, 0, 11, 0);
        looked(due, x, 7, 1, 1);
    }

    private static void tapeAndBatch(Due due) {
        due.sentence("12 bytes on the tape, 13 records of the batch (NONE without one), 14 the next table's number");
        TrailStore x = new TrailStore(600);
        due.told(x, 12, 0, 13, -1, 14, 1);
        Due.type(x, 64, 1);
        due.told(x, 12, 64);
        x.begin();
        due.told(x, 12, 64, 13, 0);
        for (int i = 1; i <= 8; i++) {
            x.put(i);
            due.told(x, 12, 0, 13, i);
        }
        x.commit();
        due.told(x, 13, -1, 14, 1);
        x.checkpoint();
        due.told(x, 14, 2);
        x.checkpoint();
        due.told(x, 14, 2);
    }

    private static void others(Due due) {
        due.sentence("NONE for others");
        TrailStore x = twoTables();
        x.begin();
        for (int what : new int[] {-1, -2, 15, 16, 100, Integer.MIN_VALUE, Integer.MAX_VALUE}) {
            due.none("told(" + what + ")", x.told(what));
        }
    }

    private static void down(Due due) {
        due.sentence("DOWN for all but 10 and 11 (others, too) when it is down.");
        TrailStore x = twoTables();
        x.get(7);
        x.crash(0, 0);
        for (int what = -2; what < 18; what++) {
            due.is("told(" + what + ")", x.told(what), what == 10 || what == 11 ? 1 : TrailStore.DOWN);
        }
        due.down("told of the least number", x.told(Integer.MIN_VALUE));
        due.down("told of the greatest number", x.told(Integer.MAX_VALUE));
    }
}
