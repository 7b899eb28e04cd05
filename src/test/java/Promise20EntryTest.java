public final class Promise20EntryTest {
    private static final int[] NO_KEYS = {-1, 120, 121, 255, 256, Integer.MIN_VALUE, Integer.MAX_VALUE};

    public static void main(String[] args) {
        Due due = new Due("Promise 20: entry");
        ofAKey(due);
        hasNone(due);
        others(due);
        down(due);
        due.end();
    }

    private static void ofAKey(Due due) {
        due.sentence("what = 0 its kind, 1 its number, 2 where its record is, 3 1 if it is in memory, else 0");
        TrailStore x = new TrailStore(600);
        Due.put(x, 0, 5, 1);
        Due.put(x, 119, 1, 1);
        due.entry(x, 0, 1, 1, 0, 1);
        due.entry(x, 119, 1, 2, 17, 1);
        x.remove(0);
        due.entry(x, 0, 2, 3, 30, 1);
        x.checkpoint();
        due.entry(x, 0, 2, 3, 30, 0);
        due.entry(x, 119, 1, 2, 17, 0);
        x.put(0);
        due.entry(x, 0, 1, 4, 42, 1);
        x.checkpoint();
        due.entry(x, 0, 1, 4, 42, 0);
        x.begin();
        x.put(3);
        x.remove(4);
        x.put(5);
        x.commit();
        due.entry(x, 3, 1, 5, 54, 1);
        due.entry(x, 4, 2, 6, 66, 1);
        due.entry(x, 5, 1, 7, 78, 1);
        x.collect(1000);
        due.entry(x, 119, 1, 8, 90, 1);
        due.entry(x, 0, 1, 9, 103, 1);
        due.entry(x, 4, 2, 6, 66, 0);
        x.crash(0, 0);
        x.open();
        due.entry(x, 119, 1, 8, 90, 1);
        due.entry(x, 4, 2, 6, 66, 0);
    }

    private static void hasNone(Due due) {
        due.sentence("NONE when it has none");
        TrailStore x = new TrailStore(600);
        x.put(0);
        x.put(119);
        for (int turn = 0; turn < 2; turn++) {
            for (int what = -1; what < 5; what++) {
                due.none("entry(1, " + what + ")", x.entry(1, what));
                due.none("entry(118, " + what + ")", x.entry(118, what));
                for (int key : NO_KEYS) {
                    due.none("entry(" + key + ", " + what + ")", x.entry(key, what));
                }
            }
            x.checkpoint();
        }
        x.begin();
        x.put(3);
        due.none("entry(3, 0), which is in a batch", x.entry(3, 0));
    }

    private static void others(Due due) {
        due.sentence("or for others");
        TrailStore x = new TrailStore(600);
        x.put(0);
        for (int turn = 0; turn < 2; turn++) {
            for (int what : new int[] {-1, 4, 5, Integer.MIN_VALUE, Integer.MAX_VALUE}) {
                due.none("entry(0, " + what + ")", x.entry(0, what));
            }
            x.checkpoint();
        }
    }

    private static void down(Due due) {
        due.sentence("NONE when it has none, or for others. DOWN.");
        TrailStore x = new TrailStore(600);
        x.put(0);
        x.crash(9, 9);
        int[][] all = {{0, 0}, {0, 3}, {0, 4}, {1, 0}, {-1, 0}, {120, -1}};
        for (int[] a : all) {
            due.down("entry(" + a[0] + ", " + a[1] + ")", x.entry(a[0], a[1]));
        }
    }
}
