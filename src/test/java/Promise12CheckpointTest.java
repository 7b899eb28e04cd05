public final class Promise12CheckpointTest {
    public static void main(String[] args) {
        Due due = new Due("Promise 12: checkpoint");
        howMany(due);
        ofNothing(due);
        down(due);
        failing(due);
        due.end();
    }

    private static void howMany(Due due) {
        due.sentence("A checkpoint: how many tables are in use.");
        TrailStore x = new TrailStore(4096);
        // with 14 keys each the 4th makes a table of level 2, with one key each the 4th makes one of level 1
        int[] want = {1, 2, 3, 1, 2, 3, 4, 2, 3, 4, 5, 2};
        for (int i = 0; i < want.length; i++) {
            Due.putAll(x, 14 * Math.min(i, 4), i < 4 ? 14 : 1);
            due.is("checkpoint() " + (i + 1), x.checkpoint(), want[i]);
            due.told(x, 5, 0, 6, want[i], 7, 0);
        }
        due.is("checkpoint() with empty memory", x.checkpoint(), 2);
    }

    private static void ofNothing(Due due) {
        due.sentence("If memory is not empty");
        TrailStore x = new TrailStore(600);
        due.is("checkpoint() of nothing", x.checkpoint(), 0);
        due.told(x, 2, 0, 4, 1, 6, 0, 7, 0, 14, 1);
        due.is("checkpoint() of nothing again", x.checkpoint(), 0);
        due.told(x, 2, 0, 4, 2, 6, 0, 7, 0, 14, 1);
        x.begin();
        x.put(1);
        due.is("checkpoint() with a batch alone", x.checkpoint(), 0);
        due.told(x, 13, 1);
    }

    private static void down(Due due) {
        due.sentence("how many tables are in use. DOWN.");
        TrailStore x = new TrailStore(600);
        x.put(1);
        x.crash(9, 9);
        due.down("checkpoint()", x.checkpoint());
        due.is("open()", x.open(), 1);
        due.told(x, 4, 0);
    }

    /** Tables of levels 0, 1 and 2, then the root: six writes. What was put is there after each of them. */
    private static void failing(Due due) {
        due.sentence("whenever the power fails, what was synced is there again");
        for (int n = 1; n <= 7; n++) {
            for (int keep = 0; keep <= 3; keep++) {
                for (int cut : new int[] {0, 1, 3, 4, 5, 16, 59, 60, 500}) {
                    failingAt(due, n, keep, cut);
                }
            }
        }
    }

    private static void failingAt(Due due, int n, int keep, int cut) {
        TrailStore x = new TrailStore(4096);
        for (int i = 0; i < 3; i++) {
            Due.round(x, 12 * i, 12);
        }
        for (int key = 36; key < 48; key++) {
            Due.put(x, key, 1, key);
        }
        x.fail(n, keep, cut);
        due.is("checkpoint() failing at " + n, x.checkpoint(), n < 7 ? TrailStore.DOWN : 1);
        if (n < 7) {
            boolean rootThere = n == 6 && (keep == 3 || keep == 2 && cut >= 4);
            due.is("open()", x.open(), rootThere ? 0 : 12);
            due.told(x, 4, rootThere ? 4 : 3, 5, rootThere ? 0 : 12, 6, rootThere ? 1 : 3);
        }
        due.told(x, 0, 576 + 12, 3, 49, 8, 48);
        due.value(x, 47, 47);
        due.is("check()", x.check(), 1);
        due.is("spare()", x.spare(), n < 7 ? 0 : 1);
        due.is("checkpoint() once more", x.checkpoint(), 1);
        due.is("check()", x.check(), 1);
    }
}
