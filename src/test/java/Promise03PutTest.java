public final class Promise03PutTest {
    private static final int[] NO_KEYS = {-1, 120, 121, 255, 256, Integer.MIN_VALUE, Integer.MAX_VALUE};

    public static void main(String[] args) {
        Due due = new Due("Promise 3: put");
        written(due);
        inBatch(due);
        noSuchKey(due);
        batchHasEight(due);
        full(due);
        down(due);
        failing(due);
        due.end();
    }

    private static void written(Due due) {
        due.sentence("The tape, which is empty then, is written as a key's value: 1");
        TrailStore x = new TrailStore(600);
        x.type(0x0708L, 2);
        due.is("put(119)", x.put(119), 1);
        due.told(x, 0, 14, 3, 2, 5, 1, 7, 3, 12, 0);
        due.is("put(0), of no bytes", x.put(0), 1);
        due.told(x, 0, 26, 3, 3, 5, 2, 7, 5, 12, 0);
        due.value(x, 119, 7, 8);
        due.value(x, 0);
        Due.type(x, 64, 9);
        due.is("put(119) again, of 64 bytes", x.put(119), 1);
        due.told(x, 0, 102, 3, 4, 5, 2, 7, 8, 8, 2, 9, 88, 12, 0);
        due.is("get(119)", x.get(119), 64);
    }

    private static void inBatch(Due due) {
        due.sentence("in a batch it becomes the batch's next record: how many it has");
        TrailStore x = new TrailStore(600);
        x.begin();
        for (int i = 1; i <= 8; i++) {
            x.type(i, 1);
            due.is("put in a batch", x.put(i % 3), i);
            due.told(x, 0, 0, 5, 0, 7, 0, 12, 0, 13, i);
        }
        due.none("get(1) before the commit", x.get(1));
        x.commit();
        due.value(x, 0, 6);
        due.value(x, 1, 7);
        due.value(x, 2, 8);
        x.type(9L, 1);
        due.is("put behind the batch", x.put(3), 1);
        due.value(x, 3, 9);
    }

    private static void noSuchKey(Due due) {
        due.sentence("NONE, the tape staying, when there is no such key");
        TrailStore x = new TrailStore(600);
        x.type(5L, 3);
        for (int key : NO_KEYS) {
            due.none("put(" + key + ")", x.put(key));
            due.told(x, 0, 0, 3, 1, 5, 0, 7, 0, 12, 3);
        }
        x.begin();
        for (int key : NO_KEYS) {
            due.none("put(" + key + ") in a batch", x.put(key));
            due.told(x, 12, 3, 13, 0);
        }
        due.is("put(119)", x.put(119), 1);
        x.commit();
        due.value(x, 119, 0, 0, 5);
    }

    private static void batchHasEight(Due due) {
        due.sentence("or the batch has 8");
        TrailStore x = new TrailStore(600);
        x.begin();
        Due.putAll(x, 1, 7);
        x.type(8L, 1);
        due.is("the 8th put", x.put(8), 8);
        x.type(9L, 1);
        due.none("the 9th put", x.put(9));
        due.none("the 9th put, of a key of the batch", x.put(8));
        due.told(x, 0, 0, 12, 1, 13, 8);
        due.is("commit()", x.commit(), 8);
        due.none("get(9)", x.get(9));
        due.value(x, 8, 8);
        due.is("put(9) behind the batch", x.put(9), 1);
        due.value(x, 9, 9);
        x.begin();
        due.is("put in the next batch", x.put(9), 1);
    }

    private static void full(Due due) {
        due.sentence("FULL, the tape being empty.");
        TrailStore x = new TrailStore(512);
        for (int key = 0; key < 4; key++) {
            Due.put(x, key, 64, key + 1);
        }
        Due.type(x, 9, 5);
        due.full("put of 21 bytes where 20 are free", x.put(4));
        due.told(x, 8, 4, 12, 0);
        due.none("get(4)", x.get(4));
        x.type(6L, 1);
        due.is("put(4)", x.put(4), 1);
        due.value(x, 4, 6);
        due.is("get(0)", x.get(0), 64);
    }

    private static void down(Due due) {
        due.sentence("calls of which DOWN is told answer that before all else, whatever the numbers");
        TrailStore x = new TrailStore(600);
        x.crash(0, 0);
        due.down("put(1)", x.put(1));
        for (int key : NO_KEYS) {
            due.down("put(" + key + ")", x.put(key));
        }
    }

    private static void failing(Due due) {
        due.sentence("the call under way ends with DOWN and does nothing more");
        for (int n = 1; n <= 3; n++) {
            TrailStore x = new TrailStore(600);
            x.fail(n, 9, 0);
            x.type(6L, 1);
            due.down("put at whose write " + n + " the power fails", x.put(3));
            due.is("its value", x.cell(0, 12), n >= 2 ? 6 : 0);
            due.is("its header", x.cell(0, 0), n == 3 ? 1 : 0);
            due.is("open()", x.open(), n == 3 ? 1 : 0);
            due.told(x, 0, n == 3 ? 13 : 0, 3, n == 3 ? 2 : 1, 12, 0);
        }
    }
}
