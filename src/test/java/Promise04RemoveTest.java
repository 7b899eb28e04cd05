public final class Promise04RemoveTest {
    private static final int[] NO_KEYS = {-1, 120, 121, 255, 256, Integer.MIN_VALUE, Integer.MAX_VALUE};

    public static void main(String[] args) {
        Due due = new Due("Promise 4: remove");
        written(due);
        inBatch(due);
        notThere(due);
        noSuchKey(due);
        batchHasEight(due);
        full(due);
        down(due);
        failing(due);
        due.end();
    }

    private static void written(Due due) {
        due.sentence("A key is removed: a removal is written: 1");
        TrailStore x = new TrailStore(600);
        Due.put(x, 3, 4, 1);
        x.type(9L, 2);
        due.is("remove(3)", x.remove(3), 1);
        due.cells(x, 0, 16, 2, 3, 0, 0, 0, 0, 0, 2, 0, 0, 0, 2, 0);
        due.told(x, 0, 28, 3, 3, 5, 1, 7, 5, 8, 0, 9, 0, 12, 2);
        due.none("get(3)", x.get(3));
        x.put(0);
        x.put(119);
        x.checkpoint();
        due.is("remove(119), which is in a table", x.remove(119), 1);
        due.is("remove(0), which is in a table", x.remove(0), 1);
        due.none("get(119)", x.get(119));
        due.none("next(0)", x.next(0));
        x.crash(9, 0);
        x.open();
        due.none("get(119) after opening", x.get(119));
        due.is("remove of an empty value", x.put(3) + x.remove(3), 2);
    }

    private static void inBatch(Due due) {
        due.sentence("in a batch it is its next record: how many it has");
        TrailStore x = new TrailStore(600);
        x.put(1);
        x.begin();
        x.type(9L, 2);
        due.is("remove(1)", x.remove(1), 1);
        due.is("remove of what is not there", x.remove(2), 2);
        due.is("remove of what is removed in the batch", x.remove(1), 3);
        due.told(x, 0, 12, 7, 2, 12, 2, 13, 3);
        due.is("get(1) before the commit", x.get(1), 0);
        due.is("commit()", x.commit(), 3);
        due.told(x, 0, 48, 5, 2, 12, 2);
        due.entry(x, 2, 2, 3, 24, 1);
        due.entry(x, 1, 2, 4, 36, 1);
    }

    private static void notThere(Due due) {
        due.sentence("0, and nothing is done, without a batch, when the key is not there");
        TrailStore x = new TrailStore(600);
        due.is("remove of what never was there", x.remove(3), 0);
        due.told(x, 0, 0, 3, 1, 5, 0, 7, 0);
        x.put(3);
        x.remove(3);
        due.is("remove of what is removed in memory", x.remove(3), 0);
        due.told(x, 0, 24, 5, 1, 7, 4);
        x.checkpoint();
        due.is("remove of what is removed in a table", x.remove(3), 0);
        due.told(x, 0, 24, 4, 1, 5, 0, 7, 0);
        TrailStore y = new TrailStore(4096);
        Due.putAll(y, 0, 24);
        due.is("remove of what is not there with 24 in memory", y.remove(24), 0);
        due.told(y, 4, 0, 5, 24);
        TrailStore z = new TrailStore(512);
        for (int key = 0; key < 9; key++) {
            Due.put(z, key, 24, key);
        }
        due.is("remove of what is not there with no room", z.remove(9), 0);
        due.told(z, 0, 324, 4, 0);
    }

    private static void noSuchKey(Due due) {
        due.sentence("NONE when there is no such key");
        TrailStore x = new TrailStore(600);
        for (int key : NO_KEYS) {
            due.none("remove(" + key + ")", x.remove(key));
            due.told(x, 0, 0, 5, 0, 7, 0);
        }
        x.begin();
        for (int key : NO_KEYS) {
            due.none("remove(" + key + ") in a batch", x.remove(key));
            due.told(x, 13, 0);
        }
        due.is("remove(0) in a batch", x.remove(0), 1);
        due.is("remove(119) in a batch", x.remove(119), 2);
    }

    private static void batchHasEight(Due due) {
        due.sentence("or the batch has 8");
        TrailStore x = new TrailStore(600);
        x.put(1);
        x.begin();
        Due.putAll(x, 10, 7);
        due.is("the 8th", x.remove(1), 8);
        due.none("the 9th", x.remove(1));
        due.none("the 9th, of what is not there", x.remove(50));
        due.told(x, 13, 8);
        due.is("commit()", x.commit(), 8);
        due.none("entry(50, 0)", x.entry(50, 0));
        due.is("remove behind the batch", x.remove(10), 1);
    }

    private static void full(Due due) {
        due.sentence("FULL, DOWN.");
        TrailStore x = new TrailStore(512);
        for (int key = 0; key < 9; key++) {
            Due.put(x, key, 24, key);
        }
        x.type(1L, 1);
        due.full("remove with no room", x.remove(0));
        due.is("get(0)", x.get(0), 24);
        due.told(x, 8, 9, 12, 1);
        due.is("check()", x.check(), 1);
        TrailStore y = new TrailStore(512);
        for (int key = 0; key < 9; key++) {
            Due.put(y, key, key < 8 ? 24 : 12, key);
        }
        due.is("remove with 12 bytes free", y.remove(0), 1);
        due.told(y, 0, 324, 4, 0);
    }

    private static void down(Due due) {
        due.sentence("calls of which DOWN is told answer that before all else, whatever the numbers");
        TrailStore x = new TrailStore(600);
        x.crash(0, 0);
        due.down("remove(1)", x.remove(1));
        for (int key : NO_KEYS) {
            due.down("remove(" + key + ")", x.remove(key));
        }
    }

    private static void failing(Due due) {
        due.sentence("the call under way ends with DOWN and does nothing more");
        for (int n = 1; n <= 2; n++) {
            TrailStore x = new TrailStore(600);
            x.put(1);
            x.fail(n, 9, 0);
            due.down("remove at whose write " + n + " the power fails", x.remove(1));
            due.is("open()", x.open(), n == 2 ? 2 : 1);
            due.is("get(1)", x.get(1), n == 2 ? -1 : 0);
        }
    }
}
