public final class TermsCollectingTest {
    public static void main(String[] args) {
        Due due = new Due("Terms: collecting");
        checkpointFirst(due);
        noCheckpoint(due);
        nAtMost(due);
        noneFromHeadOn(due);
        appendedOnceMore(due);
        batchOfItsOwn(due);
        entryInMemory(due);
        othersArePassed(due);
        noRoom(due);
        noMemory(due);
        passedWithoutMemory(due);
        syncBeforeTail(due);
        noneLookedAt(due);
        rootWritten(due);
        due.end();
    }

    private static void checkpointFirst(Due due) {
        due.sentence("COLLECTING n: if the checkpoint is not HEAD, a checkpoint.");
        TrailStore x = new TrailStore(600);
        x.put(1);
        x.put(2);
        x.collect(1);
        due.told(x, 0, 36, 1, 12, 2, 24, 4, 2, 5, 1, 6, 1);
        x.collect(1);
        due.told(x, 0, 48, 1, 24, 2, 36, 4, 4, 5, 1, 6, 2);
    }

    private static void noCheckpoint(Due due) {
        due.sentence("if the checkpoint is not HEAD");
        TrailStore x = new TrailStore(600);
        x.put(1);
        x.put(2);
        x.checkpoint();
        x.collect(1);
        due.told(x, 0, 36, 1, 12, 2, 24, 4, 2, 5, 1, 6, 1, 14, 2);
        TrailStore y = new TrailStore(600);
        y.put(1);
        y.remove(1);
        y.checkpoint();
        y.collect(1);
        y.collect(1);
        due.told(y, 0, 24, 1, 24, 2, 24, 4, 3, 6, 1);
    }

    private static void nAtMost(Due due) {
        due.sentence("Then the records from TAIL on, n at most");
        for (int n = 1; n <= 7; n++) {
            TrailStore x = new TrailStore(600);
            for (int key = 0; key < 6; key++) {
                Due.put(x, key, key, key);
            }
            int looked = Math.min(n, 6);
            due.is("collect(" + n + ")", x.collect(n), looked);
            int bytes = 12 * looked + looked * (looked - 1) / 2;
            due.told(x, 0, 87 + bytes, 1, bytes, 5, looked);
        }
    }

    /** What it moves lies from HEAD on, so it is not looked at. */
    private static void noneFromHeadOn(Due due) {
        due.sentence("none from HEAD on as it was then");
        TrailStore x = new TrailStore(600);
        x.put(1);
        x.put(2);
        due.is("collect(1000)", x.collect(1000), 2);
        due.told(x, 0, 48, 1, 24, 2, 24);
        due.is("collect(1000)", x.collect(1000), 2);
        due.told(x, 0, 72, 1, 48, 2, 48);
        TrailStore y = new TrailStore(600);
        y.put(1);
        y.remove(1);
        due.is("collect(1000)", y.collect(1000), 2);
        due.is("collect(1000) with TAIL at HEAD", y.collect(1000), 0);
        due.told(y, 0, 24, 1, 24);
    }

    private static void appendedOnceMore(Due due) {
        due.sentence("one that its key's entry tells of, of kind 1, is appended once more");
        TrailStore x = new TrailStore(600);
        x.put(9);
        Due.put(x, 1, 64, 7);
        x.collect(2);
        due.cells(x, 0, 88, 1, 9, 0, 0, 0, 0, 0, 3, 0, 0, 0, 3);
        due.cells(x, 0, 100, 1, 1, 64, 0, 0, 0, 0, 4, 0, 0, 0, 4);
        for (int i = 0; i < 64; i++) {
            due.is("byte " + i + " of its value", x.cell(0, 112 + i), 7);
        }
        due.cells(x, 0, 176, 0, 0, 0, 0, 0, 0, 0, 0, 0, 0, 0, 0);
        due.told(x, 0, 176, 1, 88, 3, 5);
    }

    private static void batchOfItsOwn(Due due) {
        due.sentence("(as a batch of its own, with the next number, its value as it is)");
        TrailStore x = new TrailStore(600);
        x.begin();
        x.type(0x00FF80L, 3);
        x.put(1);
        x.put(2);
        x.commit();
        due.is("the kind before", x.cell(0, 0), 129);
        due.is("collect(1)", x.collect(1), 1);
        due.cells(x, 0, 27, 1, 1, 3, 0, 0, 0, 0, 3, 0, 0, 0, 3, 0, 255, 128);
        x.crash(0, 0);
        due.is("open(), with it alone", x.open(), 1);
        due.value(x, 1, 0, 255, 128);
    }

    private static void entryInMemory(Due due) {
        due.sentence("and its entry, in memory, is that");
        TrailStore x = new TrailStore(600);
        Due.put(x, 1, 2, 5);
        x.put(2);
        x.collect(1);
        due.entry(x, 1, 1, 3, 26, 1);
        due.entry(x, 2, 1, 2, 14, 0);
        due.told(x, 5, 1);
        x.get(1);
        due.told(x, 10, 0, 11, 0);
    }

    /** A value that was put again, one that was removed, its removal: none of them is moved. */
    private static void othersArePassed(Due due) {
        due.sentence("others are passed");
        TrailStore x = new TrailStore(600);
        Due.put(x, 1, 3, 1);
        Due.put(x, 2, 4, 2);
        Due.put(x, 1, 5, 3);
        x.remove(2);
        x.begin();
        x.put(3);
        x.put(3);
        x.remove(4);
        x.commit();
        int[] tails = {15, 31, 48, 60, 72, 84, 96};
        int[] heads = {96, 96, 113, 113, 113, 125, 125};
        for (int n = 1; n <= 7; n++) {
            due.is("collect(1)", x.collect(1), 1);
            due.told(x, 0, heads[n - 1], 1, tails[n - 1], 8, 2);
        }
        due.value(x, 1, 3, 3, 3, 3, 3);
        due.none("get(2)", x.get(2));
        due.entry(x, 2, 2, 4, 48, 0);
        due.entry(x, 4, 2, 7, 84, 0);
    }

    /** HEAD is 324; keys 0 and 1 move to 460; key 2's 41 bytes would end at 501, so that 12 are not left. */
    private static void noRoom(Due due) {
        due.sentence("Before one that would be appended, but for which there is no room");
        TrailStore x = new TrailStore(512);
        int[] lengths = {64, 48, 29, 64, 59};
        for (int key = 0; key < 5; key++) {
            Due.put(x, key, lengths[key], key);
        }
        due.is("collect(1000)", x.collect(1000), 2);
        due.told(x, 0, 460, 1, 136, 2, 324, 5, 2, 8, 5);
        due.entry(x, 2, 1, 3, 136, 0);
        // the next collecting has the room that this one made: for key 2 and key 3, not for key 4's 71 bytes
        due.is("collect(1000)", x.collect(1000), 2);
        due.told(x, 0, 577, 1, 253, 2, 460, 5, 2, 8, 5);
        due.is("check()", x.check(), 1);
    }

    private static void noMemory(Due due) {
        due.sentence("or whose key is none of memory's when that has 24, this ends");
        TrailStore x = new TrailStore(4096);
        Due.putAll(x, 0, 25);
        due.is("collect(1000)", x.collect(1000), 24);
        due.told(x, 0, 588, 1, 288, 2, 300, 5, 24, 8, 25);
        due.entry(x, 24, 1, 25, 288, 0);
        due.is("collect(1000)", x.collect(1000), 24);
        due.told(x, 0, 876, 1, 576, 2, 588, 5, 24, 8, 25);
        TrailStore y = new TrailStore(4096);
        Due.putAll(y, 0, 24);
        due.is("collect(1000) of 24", y.collect(1000), 24);
        due.told(y, 1, 288, 5, 24);
    }

    /** With 24 in memory, records that are not needed are still passed. */
    private static void passedWithoutMemory(Due due) {
        due.sentence("Before one that would be appended");
        TrailStore x = new TrailStore(4096);
        Due.putAll(x, 0, 24);
        x.put(30);
        x.remove(30);
        x.put(31);
        x.put(32);
        due.is("collect(1000) to the 25th that is needed", x.collect(1000), 26);
        due.told(x, 1, 312, 5, 24, 8, 26);
        TrailStore y = new TrailStore(512);
        for (int key = 0; key < 2; key++) {
            Due.put(y, key, 64, key);
        }
        Due.put(y, 5, 64, 1);
        y.remove(5);
        Due.put(y, 2, 48, 2);
        y.remove(2);
        // two move to 464; a third of 60 bytes would not fit, but it is not needed
        due.told(y, 0, 312, 4, 0);
        due.is("collect(1000)", y.collect(1000), 6);
        due.told(y, 0, 464, 1, 312, 8, 2);
    }

    /** Of the root's writes none is kept, so that what was moved shows whether it was lasting. */
    private static void syncBeforeTail(Due due) {
        due.sentence("Then a sync, TAIL is behind those that were looked at");
        TrailStore x = new TrailStore(600);
        x.put(1);
        x.put(2);
        x.checkpoint();
        x.fail(5, 0, 0);
        due.down("collect(1000)", x.collect(1000));
        due.is("open()", x.open(), 2);
        due.told(x, 0, 48, 1, 0, 2, 24, 4, 1, 5, 2, 8, 2);
        due.is("collect(1000), of the two and the moved ones", x.collect(1000), 4);
        due.told(x, 0, 72, 1, 48, 2, 48);
    }

    private static void noneLookedAt(Due due) {
        due.sentence("if there were any, the root is written");
        TrailStore x = new TrailStore(600);
        due.is("collect(1000)", x.collect(1000), 0);
        due.told(x, 4, 0, 7, 0);
        x.put(1);
        x.remove(1);
        x.collect(1000);
        due.told(x, 4, 2);
        due.is("collect(1000)", x.collect(1000), 0);
        due.told(x, 4, 2);
        x.fail(1, 0, 0);
        due.is("collect(1), without a write", x.collect(1), 0);
        due.is("spare()", x.spare(), 1);
    }

    private static void rootWritten(Due due) {
        due.sentence("the root is written (the checkpoint staying), a sync");
        TrailStore x = new TrailStore(600);
        x.put(1);
        x.put(2);
        x.collect(1);
        due.told(x, 0, 36, 1, 12, 2, 24, 4, 2, 7, 0);
        due.cells(x, 2, 0, 0, 0, 0, 2, 0, 0, 0, 24, 0, 0, 0, 12, 0, 0, 0, 3);
        due.is("crash(0, 0)", x.crash(0, 0), 0);
        due.is("open()", x.open(), 1);
        due.told(x, 0, 36, 1, 12, 2, 24, 4, 2);
    }
}
