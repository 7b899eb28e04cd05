public final class TermsWrittenTest {
    public static void main(String[] args) {
        Due due = new Due("Terms: a pass, and what is written");
        passGoesOn(due);
        fiveRounds(due);
        passOfNothing(due);
        checkpointFirst(due);
        roomBeforeMemory(due);
        passMakesRoom(due);
        full(due);
        fullStaysDone(due);
        fullAfterCheckpoint(due);
        fullThoughCrowded(due);
        crowdedBehindPass(due);
        goingOn(due);
        memoryHasThem(due);
        due.end();
    }

    private static TrailStore fourLong() {
        TrailStore x = new TrailStore(512);
        for (int key = 0; key < 4; key++) {
            Due.put(x, key, 64, key + 1);
        }
        return x;
    }

    /**
     * 1: a checkpoint; key 0's old record is passed, 1 and 2 move, for 3 there is no room (476 + 88).
     * There would be room for the put now, but TAIL, 228, is below 324. 2: a checkpoint; 3, 0, 1 and 2 move.
     */
    private static void passGoesOn(Due due) {
        due.sentence("A PASS: collecting 1000, again and again, until TAIL is not below HEAD as it was at first");
        TrailStore x = fourLong();
        Due.put(x, 0, 8, 7);
        due.told(x, 0, 324, 1, 0, 4, 0);
        due.is("put behind a pass", Due.put(x, 4, 9, 5), 1);
        due.told(x, 0, 745, 1, 476, 2, 476, 4, 4, 5, 5, 6, 2, 9, 269);
        due.entry(x, 0, 1, 9, 552, 1);
        due.value(x, 4, 5, 5, 5, 5, 5, 5, 5, 5, 5);
        due.is("check()", x.check(), 1);
        // with TAIL just at HEAD as it was at first one round is enough
        TrailStore y = new TrailStore(512);
        for (int i = 0; i < 27; i++) {
            y.put(i % 3);
        }
        due.told(y, 0, 324, 4, 0);
        due.is("put behind a pass", y.put(5), 1);
        due.told(y, 0, 372, 1, 324, 2, 324, 4, 2, 5, 4);
    }

    /** 60 keys, and 95 puts more of the last one: each round moves 14 records, for more there is no room. */
    private static void fiveRounds(Due due) {
        due.sentence("again and again");
        TrailStore x = new TrailStore(2048);
        Due.putAll(x, 0, 60);
        for (int i = 0; i < 95; i++) {
            x.put(59);
        }
        due.told(x, 0, 1860, 1, 0, 4, 2, 5, 12);
        due.is("put(60)", x.put(60), 1);
        due.told(x, 0, 2712, 1, 1980, 2, 2532, 4, 12, 5, 15, 8, 61);
        due.is("check()", x.check(), 1);
    }

    private static void passOfNothing(Due due) {
        due.sentence("or nothing was looked at");
        TrailStore x = new TrailStore(512);
        for (int turn = 0; turn < 2; turn++) {
            int head = x.told(0);
            int version = x.told(4);
            x.begin();
            for (int key = 0; key < 8; key++) {
                Due.put(x, key, 29, key);
            }
            due.full("commit() of 328 bytes with TAIL at HEAD", x.commit());
            due.told(x, 0, head, 1, head, 4, version, 7, 0);
            Due.moveTo(x, 100);
        }
    }

    private static void checkpointFirst(Due due) {
        due.sentence("Some records are WRITTEN: if memory would have more than 24 entries by them: a checkpoint.");
        TrailStore x = new TrailStore(4096);
        Due.putAll(x, 0, 24);
        due.told(x, 4, 0);
        x.put(24);
        due.told(x, 0, 300, 1, 0, 2, 288, 4, 1, 5, 1, 6, 1);
        due.entry(x, 24, 1, 25, 288, 1);
    }

    /** Memory is full and there is no room: a checkpoint, then a pass, which needs no other checkpoint at first. */
    private static void roomBeforeMemory(Due due) {
        due.sentence("If there is not room freely: a pass");
        TrailStore x = new TrailStore(512);
        Due.putAll(x, 0, 24);
        x.put(0);
        x.put(1);
        x.put(2);
        due.told(x, 0, 324, 4, 0, 5, 24);
        due.is("put(24)", x.put(24), 1);
        // version 1 is the checkpoint's; 0, 1 and 2 are passed, 3 to 16 move to 492, TAIL is 204: version 2
        // version 3; 17 to 23, 0 to 2, and of those that were moved 3 to 9 move to 696, TAIL is 408: version 4
        due.told(x, 0, 708, 1, 408, 2, 492, 4, 4, 5, 18, 8, 25);
        due.is("check()", x.check(), 1);
    }

    private static void passMakesRoom(Due due) {
        due.sentence("If there is not room freely");
        TrailStore x = new TrailStore(512);
        x.put(0);
        x.remove(0);
        due.told(x, 0, 24);
        x.begin();
        for (int key = 0; key < 8; key++) {
            Due.put(x, key, key < 4 ? 28 : 29, key);
        }
        due.is("commit() of 324 bytes behind a pass", x.commit(), 8);
        due.told(x, 0, 348, 1, 24, 2, 24, 4, 2, 5, 8, 8, 8);
        due.is("check()", x.check(), 1);
    }

    private static void full(Due due) {
        due.sentence("if there is not then either: FULL");
        TrailStore x = fourLong();
        due.full("put of 21 bytes where 20 are free", Due.put(x, 4, 9, 5));
        due.told(x, 8, 4);
        due.none("get(4)", x.get(4));
        due.is("put of 20 bytes", Due.put(x, 4, 8, 5), 1);
        due.told(x, 8, 5);
        due.is("check()", x.check(), 1);
    }

    /** Two rounds of two records each. */
    private static void fullStaysDone(Due due) {
        due.sentence("(all that was done till then stays done)");
        TrailStore x = fourLong();
        due.full("put of 21 bytes where 20 are free", Due.put(x, 4, 9, 5));
        due.told(x, 0, 608, 1, 304, 2, 456, 3, 9, 4, 4, 5, 2, 6, 2, 7, 0, 8, 4);
        due.is("crash(0, 0)", x.crash(0, 0), 0);
        due.is("open()", x.open(), 2);
        due.told(x, 0, 608, 1, 304, 2, 456, 3, 9, 4, 4, 5, 2, 6, 2, 8, 4);
    }

    private static void fullAfterCheckpoint(Due due) {
        due.sentence("FULL (all that was done till then stays done)");
        TrailStore x = new TrailStore(512);
        Due.putAll(x, 0, 24);
        due.told(x, 4, 0, 5, 24);
        due.full("put of 48 bytes where 36 are free", Due.put(x, 24, 36, 1));
        // the checkpoint; 17 of 24 move to 492; a checkpoint; 7 and 10 more move
        due.told(x, 0, 696, 1, 408, 2, 492, 4, 4, 5, 17, 8, 24);
        due.none("get(24)", x.get(24));
        due.is("put of 36 bytes", Due.put(x, 24, 24, 1), 1);
        due.told(x, 0, 732, 4, 4, 5, 18, 8, 25);
    }

    /** A pass moves all 24 keys: memory would have too many, but without room there is no checkpoint more. */
    private static void fullThoughCrowded(Due due) {
        due.sentence("if there is not then either: FULL (all that was done till then stays done); again");
        TrailStore x = new TrailStore(1024);
        Due.putAll(x, 0, 24);
        x.begin();
        for (int i = 0; i < 8; i++) {
            Due.put(x, 50, 64, i);
        }
        due.full("commit() of 608 bytes where 548 are free", x.commit());
        due.told(x, 0, 576, 1, 288, 2, 288, 4, 2, 5, 24, 6, 1, 8, 24);
    }

    /** A pass can fill memory with what it moves: then there is one more checkpoint. */
    private static void crowdedBehindPass(Due due) {
        due.sentence("again, if memory would have more than 24 entries by them: a checkpoint");
        TrailStore x = new TrailStore(1024);
        for (int i = 0; i < 45; i++) {
            x.put(0);
        }
        Due.putAll(x, 0, 24);
        due.told(x, 0, 828, 4, 0, 5, 24);
        due.is("put(30)", x.put(30), 1);
        // a checkpoint; 45 are passed and 15 moved, to 1008; a checkpoint; 24 are moved, to 1296; a checkpoint
        due.told(x, 0, 1308, 1, 1008, 2, 1296, 4, 5, 5, 1, 6, 3, 7, 2, 8, 25);
        due.is("check()", x.check(), 1);
        TrailStore y = new TrailStore(1024);
        for (int i = 0; i < 46; i++) {
            y.put(0);
        }
        Due.putAll(y, 0, 23);
        due.told(y, 0, 828, 4, 0, 5, 23);
        due.is("put(30), the 24th", y.put(30), 1);
        // 46 are passed and 15 moved; the other 8 and 15 more are moved: 23 in memory, and one more
        due.told(y, 0, 1296, 1, 1008, 2, 1008, 4, 4, 5, 24, 6, 2, 7, 2, 8, 24);
    }

    private static void goingOn(Due due) {
        due.sentence("Then they are appended, all but the last one going on");
        for (int count = 1; count <= 8; count++) {
            TrailStore x = new TrailStore(600);
            x.begin();
            for (int i = 0; i < count; i++) {
                x.remove(i);
            }
            x.commit();
            for (int i = 0; i < count; i++) {
                due.cells(x, 0, 12 * i, i < count - 1 ? 130 : 2, i, 0, 0, 0, 0, 0, i + 1, 0, 0, 0, i + 1);
            }
            due.is("the byte behind", x.cell(0, 12 * count), 0);
        }
    }

    private static void memoryHasThem(Due due) {
        due.sentence("then memory has them");
        TrailStore x = new TrailStore(600);
        x.begin();
        Due.put(x, 1, 2, 1);
        x.remove(2);
        Due.put(x, 1, 3, 2);
        due.told(x, 5, 0);
        x.commit();
        due.told(x, 5, 2);
        due.entry(x, 1, 1, 3, 26, 1);
        due.entry(x, 2, 2, 2, 14, 1);
        due.value(x, 1, 2, 2, 2);
    }
}
