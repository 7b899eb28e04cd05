public final class Promise03PutTest {
    public static void main(String[] args) {
        Due due = new Due("promise 3, put");
        ordinary(due);
        wrongKeys(due);
        inBatch(due);
        memoryFull(due);
        freelyToTheByte(due);
        passMakesRoom(due);
        fullAfterPass(due);
        crowdedBehindPass(due);
        failing(due);
        due.end();
    }

    private static void ordinary(Due due) {
        TrailStore x = new TrailStore(600);
        x.type(0x0708L, 2);
        due.is("put(119)", x.put(119), 1);
        due.cells(x, 0, 0, 1, 119, 2, 0, 0, 0, 0, 1, 0, 0, 0, 1, 7, 8, 0, 0);
        due.told(x, 0, 14, 3, 2, 5, 1, 7, 3, 12, 0);
        due.is("put(0), of no bytes", x.put(0), 1);
        due.cells(x, 0, 14, 1, 0, 0, 0, 0, 0, 0, 2, 0, 0, 0, 2, 0);
        due.told(x, 0, 26, 3, 3, 5, 2, 7, 5);
        due.value(x, 119, 7, 8);
        due.value(x, 0);
        x.type(5L, 1);
        due.is("put(119) again", x.put(119), 1);
        due.value(x, 119, 5);
        due.told(x, 0, 39, 5, 2, 8, 2, 9, 25);
    }

    private static void wrongKeys(Due due) {
        TrailStore x = new TrailStore(600);
        x.type(1L, 3);
        for (int key : new int[] {-1, 120, Integer.MIN_VALUE, Integer.MAX_VALUE}) {
            due.is("put(" + key + ")", x.put(key), TrailStore.NONE);
            due.told(x, 0, 0, 7, 0, 12, 3);
        }
        x.crash(0, 0);
        due.is("put(1) down", x.put(1), TrailStore.DOWN);
        due.is("put(-1) down", x.put(-1), TrailStore.DOWN);
    }

    private static void inBatch(Due due) {
        TrailStore x = new TrailStore(600);
        x.begin();
        for (int i = 1; i <= 8; i++) {
            x.type(i, 1);
            due.is("put in a batch", x.put(i), i);
            due.told(x, 0, 0, 7, 0, 12, 0, 13, i);
        }
        x.type(9L, 1);
        due.is("the 9th put in a batch", x.put(9), TrailStore.NONE);
        due.is("put(-1) in a batch", x.put(-1), TrailStore.NONE);
        due.told(x, 12, 1, 13, 8);
        due.is("commit()", x.commit(), 8);
        due.is("put(9)", x.put(9), 1);
        due.value(x, 9, 9);
        due.value(x, 8, 8);
    }

    private static void memoryFull(Due due) {
        TrailStore x = new TrailStore(4096);
        for (int key = 0; key < 24; key++) {
            x.put(key);
        }
        due.told(x, 4, 0, 5, 24, 6, 0);
        due.is("put of a key in memory", x.put(23), 1);
        due.told(x, 4, 0, 5, 24, 6, 0);
        due.is("put of a 25th key", x.put(24), 1);
        due.told(x, 2, 300, 4, 1, 5, 1, 6, 1, 7, 2);
        due.is("entries of the table", x.table(0, 1), 24);
    }

    /** In a log of 512 bytes 512 - 176 - 12 of them are free for records. */
    private static void freelyToTheByte(Due due) {
        TrailStore x = fourLong();
        due.is("put of the last 20 bytes", Due.put(x, 4, 8, 5), 1);
        due.told(x, 0, 324, 1, 0, 4, 0);
    }

    private static TrailStore fourLong() {
        TrailStore x = new TrailStore(512);
        for (int key = 0; key < 4; key++) {
            Due.put(x, key, 64, key + 1);
        }
        return x;
    }

    private static void passMakesRoom(Due due) {
        TrailStore x = fourLong();
        Due.put(x, 0, 8, 7);
        due.told(x, 0, 324, 4, 0);
        due.is("put behind a pass", Due.put(x, 4, 9, 5), 1);
        // 1: checkpoint; key 0's old record is passed, 1 and 2 move, for 3 there is no room (476 + 88)
        // 2: checkpoint; 3, 0, 1 and 2 move, so TAIL is 476, not below HEAD as it was at first, 324
        due.told(x, 0, 745, 1, 476, 2, 476, 4, 4, 5, 5, 6, 2, 9, 269);
        due.is("where key 0 is", x.entry(0, 2), 552);
        due.value(x, 4, 5, 5, 5, 5, 5, 5, 5, 5, 5);
        due.value(x, 0, 7, 7, 7, 7, 7, 7, 7, 7);
        due.is("check()", x.check(), 1);
    }

    private static void fullAfterPass(Due due) {
        TrailStore x = fourLong();
        due.is("put with no room", Due.put(x, 4, 9, 5), TrailStore.FULL);
        // two rounds of two records each, all that was done stays done
        due.told(x, 0, 608, 1, 304, 2, 456, 3, 9, 4, 4, 5, 2, 6, 2, 7, 0, 8, 4, 12, 0);
        due.is("get(4)", x.get(4), TrailStore.NONE);
        due.is("put of the last 20 bytes", Due.put(x, 4, 8, 5), 1);
        due.told(x, 0, 628, 4, 4);
        due.is("check()", x.check(), 1);
    }

    /** A pass can fill memory with what it moves: then there is a second checkpoint. */
    private static void crowdedBehindPass(Due due) {
        TrailStore x = new TrailStore(1024);
        for (int i = 0; i < 45; i++) {
            x.put(0);
        }
        for (int key = 0; key < 24; key++) {
            x.put(key);
        }
        due.told(x, 0, 828, 4, 0, 5, 24);
        due.is("put(30)", x.put(30), 1);
        // a checkpoint; 45 are passed and 15 moved, to 1008; a checkpoint; 24 are moved, to 1296; a checkpoint
        due.told(x, 0, 1308, 1, 1008, 2, 1296, 4, 5, 5, 1, 6, 3, 7, 2, 8, 25);
        due.is("check()", x.check(), 1);
    }

    private static void failing(Due due) {
        TrailStore x = new TrailStore(600);
        x.fail(2, 9, 9);
        x.type(6L, 1);
        due.is("put at whose 2nd write the power fails", x.put(3), TrailStore.DOWN);
        due.is("its value", x.cell(0, 12), 6);
        due.is("its header", x.cell(0, 0), 0);
        due.is("open()", x.open(), 0);
        due.told(x, 12, 0, 0, 0, 3, 1);
    }
}
