/** No run of calls makes check() tell 0, so bytes of the disk are changed from outside. */
public final class Promise22CheckTest {
    public static void main(String[] args) {
        Due due = new Due("Promise 22: check");
        holds(due);
        changesNothing(due);
        recordOfAKey(due);
        checkpointInside(due);
        sameOpening(due);
        otherValue(due);
        down(due);
        due.end();
    }

    private static void holds(Due due) {
        due.sentence("1, it would tell 0");
        TrailStore x = new TrailStore(512);
        due.is("check() of nothing", x.check(), 1);
        for (int i = 0; i < 80; i++) {
            Due.put(x, i % 7, i % 9, i);
            due.is("check() behind put " + i, x.check(), 1);
            if (i % 5 == 0) {
                x.remove(i % 3);
                due.is("check() behind a remove", x.check(), 1);
            }
            if (i % 20 == 0) {
                x.crash(1, 1);
                x.open();
                due.is("check() after opening", x.check(), 1);
            }
        }
    }

    private static void changesNothing(Due due) {
        due.sentence("if the power failed now and kept all");
        TrailStore x = new TrailStore(600);
        Due.put(x, 1, 2, 3);
        x.checkpoint();
        Due.put(x, 2, 2, 4);
        x.begin();
        x.put(3);
        x.type(1L, 1);
        x.get(1);
        x.fail(1, 0, 0);
        due.is("check(), of what is not lasting", x.check(), 1);
        due.told(x, 0, 28, 2, 14, 4, 1, 5, 1, 7, 3, 10, 1, 11, 0, 12, 1, 13, 1);
        due.is("read(1)", x.read(1), 3);
        due.is("spare()", x.spare(), 1);
    }

    /** Key 0's record lies at 0 and its entry is in a table, key 6's lies at 14 and its entry is in memory. */
    private static TrailStore some() {
        TrailStore x = new TrailStore(600);
        Due.put(x, 0, 2, 3);
        x.checkpoint();
        Due.put(x, 6, 2, 4);
        return x;
    }

    private static void spoilt(Due due, int area, int at, int value) {
        TrailStore x = some();
        due.is("check() before", x.check(), 1);
        int before = Spoil.set(x, area, at, value);
        due.is("check() with " + value + " at " + at + " of area " + area, x.check(), 0);
        Spoil.set(x, area, at, before);
        due.is("check() with it mended", x.check(), 1);
    }

    private static void recordOfAKey(Due due) {
        due.sentence("Whether each key that is there has, where its entry tells, a record between TAIL and HEAD "
                + "with its key and number");
        int[][] inLog = {{0, 2}, {0, 0}, {1, 6}, {7, 9}, {11, 9}, {14, 0}, {15, 7}, {21, 9}, {25, 9}};
        for (int[] spot : inLog) {
            spoilt(due, 0, spot[0], spot[1]);
        }
        spoilt(due, 1, 21, 90);
        spoilt(due, 1, 25, 3);
        spoilt(due, 1, 16, 7);
        // the record of key 6 would end one byte behind HEAD
        spoilt(due, 0, 16, 3);
        for (int tail = 0; tail <= 1; tail++) {
            TrailStore x = some();
            x.crash(9, 9);
            Spoil.set(x, 2, 75, tail);
            x.open();
            due.told(x, 0, 28, 1, tail, 8, 2);
            due.is("check() with TAIL at " + tail, x.check(), 1 - tail);
        }
    }

    private static void sameOpening(Due due) {
        due.sentence("the next opening, if the power failed now and kept all, would have the same keys with the "
                + "same values");
        // the record of key 6 does not end its batch, or is none; the root is another, or has no table
        spoilt(due, 0, 14, 129);
        spoilt(due, 0, 17, 1);
        spoilt(due, 2, 71, 28);
        spoilt(due, 2, 79, 7);
        spoilt(due, 2, 84, 0);
        TrailStore x = some();
        x.remove(6);
        Spoil.set(x, 0, 28, 0);
        due.is("check() with a removal that would be lost", x.check(), 0);
        TrailStore y = new TrailStore(600);
        Due.put(y, 6, 2, 4);
        Due.put(y, 6, 2, 5);
        Spoil.set(y, 0, 14, 0);
        due.is("check() with a later value that would be lost", y.check(), 0);
        TrailStore z = some();
        Spoil.set(z, 2, 127, 2);
        due.is("check() without a root, where all is in the log", z.check(), 1);
    }

    /** The end of a batch, a removal, is lost: an opening has the value before the batch. */
    private static void otherValue(Due due) {
        due.sentence("with the same values");
        int[][] values = {{2, 5, 0}, {2, 4, 1}, {3, 4, 0}, {1, 4, 0}, {0, 0, 0}};
        for (int[] later : values) {
            TrailStore x = new TrailStore(600);
            Due.put(x, 6, 2, 4);
            x.begin();
            Due.put(x, 6, later[0], later[1]);
            x.remove(7);
            x.commit();
            due.is("check() before", x.check(), 1);
            Spoil.set(x, 0, 26 + later[0], 0);
            due.is("check() with " + later[0] + " bytes of " + later[1] + " for 2 of 4", x.check(), later[2]);
        }
        TrailStore x = new TrailStore(600);
        x.type(0x0102L, 2);
        x.put(6);
        x.begin();
        x.type(0x0103L, 2);
        x.put(6);
        x.remove(7);
        x.commit();
        Spoil.set(x, 0, 28, 0);
        due.is("check() with values that differ in the last byte", x.check(), 0);
    }

    /** An opening takes both from the root, so there the checkpoint can come to lie before TAIL. */
    private static void checkpointInside(Due due) {
        due.sentence("whether the checkpoint is none of before TAIL or behind HEAD");
        for (int tail = 22; tail <= 26; tail++) {
            TrailStore x = new TrailStore(600);
            x.put(0);
            x.remove(0);
            x.checkpoint();
            x.crash(0, 0);
            Spoil.set(x, 2, 75, tail);
            x.open();
            due.told(x, 0, 24, 1, tail, 2, 24, 8, 0);
            due.is("check() with TAIL at " + tail, x.check(), tail <= 24 ? 1 : 0);
        }
    }

    private static void down(Due due) {
        due.sentence("it would tell 0. DOWN.");
        TrailStore x = some();
        x.crash(0, 0);
        due.down("check()", x.check());
        x.open();
        due.is("check() after opening", x.check(), 1);
    }
}
